theorem idxC {x y : Int32} {N : Nat} (h : ¬ b01 (0 ≤ x ∧ x < y) = 0) (hy : nat y N) : ∃ k : Nat, x.toInt = (k : Int) ∧ k < N := by
  have h2 := b01_n.mp h
  unfold nat at hy
  simp only [Int32.lt_iff_toInt_lt, Int32.le_iff_toInt_le, Int32.reduceToInt] at h2
  exact ⟨x.toInt.toNat, by omega, by omega⟩
theorem subOne {y : Int32} {N : Nat} (hy : nat y N) (hN : N ≤ 1000) : (y - 1).toInt = (N : Int) - 1 := by
  unfold nat at hy
  rw [Int32.toInt_sub, hy]
  exact bmod_id (by simp only [Int32.reduceToInt]; omega) (by simp only [Int32.reduceToInt]; omega)
theorem leSub {x y : Int32} {N : Nat} (hy : nat y N) (hN : N ≤ 1000) : x ≤ y - 1 ↔ x < y := by
  have h := subOne hy hN
  unfold nat at hy
  rw [Int32.le_iff_toInt_le, Int32.lt_iff_toInt_lt, h, hy]
  omega
theorem INV.facts {n : Nat} {mi : MI} {mr : MR} {c : CT} (I : INV n mi mr c) : RF mr ∧ 186 ≤ n ∧ okCT (mi 174) c ∧ RW (mi 174) c mi 40 := ⟨I.1, I.2.1, I.2.2.1.1, I.2.2.2.1.1⟩
def sWine (S : Nat → Int32) (v w : Int32) : Int32 := if 0 ≤ v ∧ v < S 19 ∧ 0 ≤ w ∧ w ≤ 1 then (if w = 0 then S (68 + v.toNatClampNeg) else S (7 + v.toNatClampNeg)) else -1
def sStock (S : Nat → Int32) (v b : Int32) : Int32 := if 0 ≤ v ∧ v < S 19 then (if 0 ≤ b ∧ b ≤ 99 then S (7 + v.toNatClampNeg) else -2) else -1
abbrev okStock (S : Nat → Int32) (v b : Int32) : Prop := (0 ≤ v ∧ v < S 19) ∧ 0 ≤ b ∧ b ≤ 99
def sRow (S : Nat → Int32) (p k x : Int32) : Int32 := if 0 ≤ p ∧ p < S 12 ∧ 0 ≤ k ∧ k ≤ 3 then (if 0 ≤ x ∧ x ≤ 9 then (if S (20 + p.toNatClampNeg) = 6 then S (44 + 4 * p.toNatClampNeg + k.toNatClampNeg) else -3) else -2) else -1
abbrev okRow (S : Nat → Int32) (p k x : Int32) : Prop := (0 ≤ p ∧ p < S 12 ∧ 0 ≤ k ∧ k ≤ 3) ∧ (0 ≤ x ∧ x ≤ 9) ∧ S (20 + p.toNatClampNeg) = 6
def sDry (S : Nat → Int32) (p : Int32) : Int32 := if 0 ≤ p ∧ p < S 12 then (if S (1 + p.toNatClampNeg) = -1 then -5 else S (1 + p.toNatClampNeg)) else -1
def sFeed (S : Nat → Int32) (x : Int32) : Int32 := if 0 ≤ x ∧ x ≤ 127 then (if S 17 < 100 then S 17 + 1 else -4) else -2
theorem nat_of_toInt0 {x : Int32} (h : 0 ≤ x ∧ x ≤ 3) : x.toInt = ((x.toNatClampNeg : Nat) : Int) ∧ x.toNatClampNeg < 4 := by
  simp only [Int32.le_iff_toInt_le, Int32.reduceToInt] at h
  have e : x.toNatClampNeg = x.toInt.toNat := rfl
  rw [e]
  omega
theorem RW.hasP {S : Nat → Int32} {c : CT} {mi : MI} (h : RW S c mi 40) {p : Nat} (hp : p < cN c) : mi (40 + 18 + 2 * p) 1 = S (20 + p) ∧ mi (40 + 18 + 2 * p) 2 = S (26 + p) ∧ mi (40 + 18 + 2 * p) 5 = S (1 + p) ∧ ∀ k, k < 4 → mi (40 + 18 + 2 * p + 1) k = S (44 + 4 * p + k) := ⟨(h.2.1 p hp).1, (h.2.1 p hp).2.1, (h.2.1 p hp).2.2.2.2.1, (h.2.1 p hp).2.2.2.2.2⟩
set_option maxRecDepth 4000 in
theorem qX7_wine (n : Nat) (mi : MI) (mr : MR) (c : CT) (I : INV n mi mr c) (v w : Int32) : Ct KX7_wine 3 0 0 [.ref 32, .int v, .int w] n mi mr (eqQ (some (.int (sWine (mi 174) v w))) n (mi) mr) := by
  refine Ct.of2 [some (.ref 32), some (.int v), some (.int w)] (by decide +kernel) (Nat.le_of_ble_eq_true rfl) rfl ?_
  obtain ⟨hR, hn, ⟨⟨hN, hN6⟩, ⟨hW, hW5⟩, ⟨hL, hL5⟩, ⟨hT, hT100⟩, ⟨hS, hS5⟩, ⟨hP, hP8⟩, ⟨hBk, hB8⟩⟩, hrw⟩ := I.facts
  have hBD := I.2.2.1
  obtain ⟨⟨r1, r2, r3, r4, r5⟩, hper, hvin, htape, hseen, hnight, hbook⟩ := id hrw
  have hcN : nat (mi 40 1) (cN c) := by rw [r2]; exact hN
  have hcW : nat (mi 40 2) (cW c) := by rw [r3]; exact hW
  clear I
  refine V_aload_n dX7_wine_0 rfl ?_
  refine V_iload_n dX7_wine_1 rfl ?_
  refine V_callV (ci := 7) (qX7_isVintage _ _ _ hR hn _) dX7_wine_2 mlX7_140 mtX7_isVintage ivX7_isVintage rfl rfl ⟨by omega, by omega⟩ (by decide) rfl rfl (by decide) (Nat.le_of_ble_eq_true rfl) rfl rfl ?_
  rintro _ _ _ _ ⟨rfl, rfl, rfl, rfl⟩
  refine V_if_eq (tgt := 17) dX7_wine_5 (by decide) (fun c5 => ?_) (fun c5 => ?_)
  · refine V_iconst (v := -1) dX7_wine_17 rfl ?_
    refine V_iret dX7_wine_18 rfl rfl ?_
    clear hR
    (try simp only [b01_0, b01_n] at *)
    refine ⟨?_, rfl, ?_, rfl⟩
    all_goals (simp only [sWine]; (try simp only [r3]); repeat' split)
    all_goals first | rfl | (exfalso; simp only [Int32.lt_iff_toInt_lt, Int32.le_iff_toInt_le, ← Int32.toInt_inj, Int32.reduceToInt] at *; omega)
  · refine V_iload_n dX7_wine_8 rfl ?_
    refine V_if_lt (tgt := 17) dX7_wine_9 (by decide) (fun c9 => ?_) (fun c9 => ?_)
    · refine V_iconst (v := -1) dX7_wine_17 rfl ?_
      refine V_iret dX7_wine_18 rfl rfl ?_
      clear hR
      (try simp only [b01_0, b01_n] at *)
      refine ⟨?_, rfl, ?_, rfl⟩
      all_goals (simp only [sWine]; (try simp only [r3]); repeat' split)
      all_goals first | rfl | (exfalso; simp only [Int32.lt_iff_toInt_lt, Int32.le_iff_toInt_le, ← Int32.toInt_inj, Int32.reduceToInt] at *; omega)
    · refine V_iload_n dX7_wine_12 rfl ?_
      refine V_iconst (v := 1) dX7_wine_13 rfl ?_
      refine V_icmp_le (tgt := 19) dX7_wine_14 (by decide) (fun c14 => ?_) (fun c14 => ?_)
      · obtain ⟨k, hk1, hk2⟩ := idxC c5 hcW
        refine V_iload_n dX7_wine_19 rfl ?_
        refine V_if_ne (tgt := 35) dX7_wine_20 (by decide) (fun c20 => ?_) (fun c20 => ?_)
        · refine V_aload_n dX7_wine_35 rfl ?_
          refine V_getr (b := 40) 7 1 dX7_wine_36 (Or.inl lkX7_30) rfl rfl ⟨by omega, by omega⟩ (hR _ _ _ rfl) ?_
          refine V_getr (b := 43) 6 8 dX7_wine_39 lnX7_146 rfl rfl ⟨by omega, by omega⟩ (hR _ _ _ rfl) ?_
          refine V_iload_n dX7_wine_42 rfl ?_
          refine V_iald (len := 5) k dX7_wine_43 rfl ⟨by omega, by omega⟩ hk1 (by omega) ?_
          refine V_iret dX7_wine_44 rfl rfl ?_
          have hv1 := (hvin k hk2).1
          have hv2 := (hvin k hk2).2
          rw [show (40 + 2 : Nat) = 42 from rfl] at hv1
          rw [show (40 + 3 : Nat) = 43 from rfl] at hv2
          first | rw [hv1] | rw [hv2]
          clear hR
          (try simp only [b01_0, b01_n] at *)
          refine ⟨?_, rfl, ?_, rfl⟩
          all_goals (simp only [sWine]; (try simp only [r3, nat_of_toInt hk1]); repeat' split)
          all_goals first | rfl | (exfalso; simp only [Int32.lt_iff_toInt_lt, Int32.le_iff_toInt_le, ← Int32.toInt_inj, Int32.reduceToInt] at *; omega)
        · refine V_aload_n dX7_wine_23 rfl ?_
          refine V_getr (b := 40) 7 1 dX7_wine_24 (Or.inl lkX7_30) rfl rfl ⟨by omega, by omega⟩ (hR _ _ _ rfl) ?_
          refine V_getr (b := 42) 6 7 dX7_wine_27 lnX7_143 rfl rfl ⟨by omega, by omega⟩ (hR _ _ _ rfl) ?_
          refine V_iload_n dX7_wine_30 rfl ?_
          refine V_iald (len := 5) k dX7_wine_31 rfl ⟨by omega, by omega⟩ hk1 (by omega) ?_
          refine V_goto (tgt := 44) dX7_wine_32 (by decide) ?_
          refine V_iret dX7_wine_44 rfl rfl ?_
          have hv1 := (hvin k hk2).1
          have hv2 := (hvin k hk2).2
          rw [show (40 + 2 : Nat) = 42 from rfl] at hv1
          rw [show (40 + 3 : Nat) = 43 from rfl] at hv2
          first | rw [hv1] | rw [hv2]
          clear hR
          (try simp only [b01_0, b01_n] at *)
          refine ⟨?_, rfl, ?_, rfl⟩
          all_goals (simp only [sWine]; (try simp only [r3, nat_of_toInt hk1]); repeat' split)
          all_goals first | rfl | (exfalso; simp only [Int32.lt_iff_toInt_lt, Int32.le_iff_toInt_le, ← Int32.toInt_inj, Int32.reduceToInt] at *; omega)
      · refine V_iconst (v := -1) dX7_wine_17 rfl ?_
        refine V_iret dX7_wine_18 rfl rfl ?_
        clear hR
        (try simp only [b01_0, b01_n] at *)
        refine ⟨?_, rfl, ?_, rfl⟩
        all_goals (simp only [sWine]; (try simp only [r3]); repeat' split)
        all_goals first | rfl | (exfalso; simp only [Int32.lt_iff_toInt_lt, Int32.le_iff_toInt_le, ← Int32.toInt_inj, Int32.reduceToInt] at *; omega)
set_option maxRecDepth 4000 in
theorem qX8_wine (n : Nat) (mi : MI) (mr : MR) (c : CT) (hR : RF mr) (hn : 186 ≤ n) (hBD : BD (mi 174) c) (v w : Int32) : Ct KX8_wine 3 0 0 [.ref 173, .int v, .int w] n mi mr (eqQ (some (.int (sWine (mi 174) v w))) n (mi) mr) := by
  refine Ct.of2 [some (.ref 173), some (.int v), some (.int w)] (by decide +kernel) (Nat.le_of_ble_eq_true rfl) rfl ?_
  obtain ⟨⟨hN, hN6⟩, ⟨hW, hW5⟩, ⟨hL, hL5⟩, ⟨hT, hT100⟩, ⟨hS, hS5⟩, ⟨hP, hP8⟩, ⟨hBk, hB8⟩⟩ := hBD.1
  refine V_aload_n dX8_wine_0 rfl ?_
  refine V_iload_n dX8_wine_1 rfl ?_
  refine V_callV (ci := 8) (qX8_isVintage _ _ _ hR hn _) dX8_wine_2 mlX8_175 mtX8_isVintage ivX8_isVintage rfl rfl ⟨by omega, by omega⟩ (by decide) rfl rfl (by decide) (Nat.le_of_ble_eq_true rfl) rfl rfl ?_
  rintro _ _ _ _ ⟨rfl, rfl, rfl, rfl⟩
  simp only [leSub hW (by omega)]
  refine V_if_eq (tgt := 17) dX8_wine_5 (by decide) (fun c5 => ?_) (fun c5 => ?_)
  · refine V_iconst (v := -1) dX8_wine_17 rfl ?_
    refine V_iret dX8_wine_18 rfl rfl ?_
    clear hR
    (try simp only [b01_0, b01_n] at *)
    refine ⟨?_, rfl, ?_, rfl⟩
    all_goals (simp only [sWine]; repeat' split)
    all_goals first | rfl | (exfalso; simp only [Int32.lt_iff_toInt_lt, Int32.le_iff_toInt_le, ← Int32.toInt_inj, Int32.reduceToInt] at *; omega)
  · refine V_iload_n dX8_wine_8 rfl ?_
    refine V_iconst (v := 0) dX8_wine_9 rfl ?_
    refine V_iconst (v := 1) dX8_wine_10 rfl ?_
    refine V_callS (qX8_in _ _ _ _ _ _) dX8_wine_11 mlX8_53 mtX8_in smX8_in rfl rfl (by decide) (Nat.le_of_ble_eq_true rfl) rfl rfl ?_
    rintro _ _ _ _ ⟨rfl, rfl, rfl, rfl⟩
    refine V_if_ne (tgt := 19) dX8_wine_14 (by decide) (fun c14 => ?_) (fun c14 => ?_)
    · obtain ⟨k, hk1, hk2⟩ := idxC c5 hW
      refine V_iload_n dX8_wine_19 rfl ?_
      refine V_if_ne (tgt := 35) dX8_wine_20 (by decide) (fun c20 => ?_) (fun c20 => ?_)
      · refine V_aload_n dX8_wine_35 rfl ?_
        refine V_getr (b := 174) 8 1 dX8_wine_36 (Or.inl lkX8_9) rfl rfl ⟨by omega, by omega⟩ (hR _ _ _ rfl) ?_
        refine V_bipush (v := 7) dX8_wine_39 rfl ?_
        refine V_iload_n dX8_wine_41 rfl ?_
        refine V_iadd dX8_wine_42 ?_
        refine V_iald (len := 938) (7 + k) dX8_wine_43 rfl ⟨by omega, by omega⟩ (ix_add (by decide) hk1 (by omega)) (by omega) ?_
        refine V_iret dX8_wine_44 rfl rfl ?_
        clear hR
        (try simp only [b01_0, b01_n] at *)
        refine ⟨?_, rfl, ?_, rfl⟩
        all_goals (simp only [sWine]; (try simp only [nat_of_toInt hk1]); repeat' split)
        all_goals first | rfl | (exfalso; simp only [Int32.lt_iff_toInt_lt, Int32.le_iff_toInt_le, ← Int32.toInt_inj, Int32.reduceToInt] at *; omega)
      · refine V_aload_n dX8_wine_23 rfl ?_
        refine V_getr (b := 174) 8 1 dX8_wine_24 (Or.inl lkX8_9) rfl rfl ⟨by omega, by omega⟩ (hR _ _ _ rfl) ?_
        refine V_bipush (v := 68) dX8_wine_27 rfl ?_
        refine V_iload_n dX8_wine_29 rfl ?_
        refine V_iadd dX8_wine_30 ?_
        refine V_iald (len := 938) (68 + k) dX8_wine_31 rfl ⟨by omega, by omega⟩ (ix_add (by decide) hk1 (by omega)) (by omega) ?_
        refine V_goto (tgt := 44) dX8_wine_32 (by decide) ?_
        refine V_iret dX8_wine_44 rfl rfl ?_
        clear hR
        (try simp only [b01_0, b01_n] at *)
        refine ⟨?_, rfl, ?_, rfl⟩
        all_goals (simp only [sWine]; (try simp only [nat_of_toInt hk1]); repeat' split)
        all_goals first | rfl | (exfalso; simp only [Int32.lt_iff_toInt_lt, Int32.le_iff_toInt_le, ← Int32.toInt_inj, Int32.reduceToInt] at *; omega)
    · refine V_iconst (v := -1) dX8_wine_17 rfl ?_
      refine V_iret dX8_wine_18 rfl rfl ?_
      clear hR
      (try simp only [b01_0, b01_n] at *)
      refine ⟨?_, rfl, ?_, rfl⟩
      all_goals (simp only [sWine]; repeat' split)
      all_goals first | rfl | (exfalso; simp only [Int32.lt_iff_toInt_lt, Int32.le_iff_toInt_le, ← Int32.toInt_inj, Int32.reduceToInt] at *; omega)
def cStock (mi : MI) (v b : Int32) : MI := if okStock (mi 174) v b then up2 mi 43 v.toNatClampNeg b else mi
def mStock (mi : MI) (v b : Int32) : MI := if okStock (mi 174) v b then up2 mi 174 (7 + v.toNatClampNeg) b else mi
set_option maxRecDepth 4000 in
theorem qX7_stock (n : Nat) (mi : MI) (mr : MR) (c : CT) (I : INV n mi mr c) (v b : Int32) : Ct KX7_stock 3 0 0 [.ref 32, .int v, .int b] n mi mr (eqQ (some (.int (sStock (mi 174) v b))) n (cStock mi v b) mr) := by
  refine Ct.of2 [some (.ref 32), some (.int v), some (.int b), none] (by decide +kernel) (Nat.le_of_ble_eq_true rfl) rfl ?_
  obtain ⟨hR, hn, ⟨⟨hN, hN6⟩, ⟨hW, hW5⟩, ⟨hL, hL5⟩, ⟨hT, hT100⟩, ⟨hS, hS5⟩, ⟨hP, hP8⟩, ⟨hBk, hB8⟩⟩, hrw⟩ := I.facts
  have hBD := I.2.2.1
  obtain ⟨⟨r1, r2, r3, r4, r5⟩, hper, hvin, htape, hseen, hnight, hbook⟩ := id hrw
  have hcN : nat (mi 40 1) (cN c) := by rw [r2]; exact hN
  have hcW : nat (mi 40 2) (cW c) := by rw [r3]; exact hW
  clear I
  refine V_aload_n dX7_stock_0 rfl ?_
  refine V_iload_n dX7_stock_1 rfl ?_
  refine V_callV (ci := 7) (qX7_isVintage _ _ _ hR hn _) dX7_stock_2 mlX7_140 mtX7_isVintage ivX7_isVintage rfl rfl ⟨by omega, by omega⟩ (by decide) rfl rfl (by decide) (Nat.le_of_ble_eq_true rfl) rfl rfl ?_
  rintro _ _ _ _ ⟨rfl, rfl, rfl, rfl⟩
  refine V_if_ne (tgt := 10) dX7_stock_5 (by decide) (fun c5 => ?_) (fun c5 => ?_)
  · refine V_iload_n dX7_stock_10 rfl ?_
    refine V_callS (qX7_isBottles _ _ _ hR hn _) dX7_stock_11 mlX7_95 mtX7_isBottles smX7_isBottles rfl rfl (by decide) (Nat.le_of_ble_eq_true rfl) rfl rfl ?_
    rintro _ _ _ _ ⟨rfl, rfl, rfl, rfl⟩
    refine V_if_ne (tgt := 20) dX7_stock_14 (by decide) (fun c14 => ?_) (fun c14 => ?_)
    · obtain ⟨k, hk1, hk2⟩ := idxC c5 hcW
      have q1 := (hvin k hk2).2
      rw [show (40 + 3 : Nat) = 43 from rfl] at q1
      refine V_aload_n dX7_stock_20 rfl ?_
      refine V_getr (b := 40) 7 1 dX7_stock_21 (Or.inl lkX7_30) rfl rfl ⟨by omega, by omega⟩ (hR _ _ _ rfl) ?_
      refine V_getr (b := 43) 6 8 dX7_stock_24 lnX7_146 rfl rfl ⟨by omega, by omega⟩ (hR _ _ _ rfl) ?_
      refine V_iload_n dX7_stock_27 rfl ?_
      refine V_iald (len := 5) k dX7_stock_28 rfl ⟨by omega, by omega⟩ hk1 (by omega) ?_
      refine V_istore_n (L' := [_, _, _, _]) dX7_stock_29 (by decide) rfl rfl ?_
      refine V_aload_n dX7_stock_30 rfl ?_
      refine V_getr (b := 40) 7 1 dX7_stock_31 (Or.inl lkX7_30) rfl rfl ⟨by omega, by omega⟩ (hR _ _ _ rfl) ?_
      refine V_getr (b := 43) 6 8 dX7_stock_34 lnX7_146 rfl rfl ⟨by omega, by omega⟩ (hR _ _ _ rfl) ?_
      refine V_iload_n dX7_stock_37 rfl ?_
      refine V_iload_n dX7_stock_38 rfl ?_
      refine V_iast (len := 5) k dX7_stock_39 rfl ⟨by omega, by omega⟩ hk1 (by omega) ?_
      refine V_iload_n dX7_stock_40 rfl ?_
      refine V_iret dX7_stock_41 rfl rfl ?_
      clear hR
      (try simp only [b01_0, b01_n] at *)
      refine ⟨?_, rfl, ?_, rfl⟩
      all_goals (simp only [sStock, cStock, okStock]; (try simp only [r3, q1, nat_of_toInt hk1]); repeat' split)
      all_goals first | rfl | (exfalso; simp only [Int32.lt_iff_toInt_lt, Int32.le_iff_toInt_le, ← Int32.toInt_inj, Int32.reduceToInt] at *; omega)
    · refine V_bipush (v := -2) dX7_stock_17 rfl ?_
      refine V_iret dX7_stock_19 rfl rfl ?_
      clear hR
      (try simp only [b01_0, b01_n] at *)
      refine ⟨?_, rfl, ?_, rfl⟩
      all_goals (simp only [sStock, cStock, okStock]; (try simp only [r3]); repeat' split)
      all_goals first | rfl | (exfalso; simp only [Int32.lt_iff_toInt_lt, Int32.le_iff_toInt_le, ← Int32.toInt_inj, Int32.reduceToInt] at *; omega)
  · refine V_iconst (v := -1) dX7_stock_8 rfl ?_
    refine V_iret dX7_stock_9 rfl rfl ?_
    clear hR
    (try simp only [b01_0, b01_n] at *)
    refine ⟨?_, rfl, ?_, rfl⟩
    all_goals (simp only [sStock, cStock, okStock]; (try simp only [r3]); repeat' split)
    all_goals first | rfl | (exfalso; simp only [Int32.lt_iff_toInt_lt, Int32.le_iff_toInt_le, ← Int32.toInt_inj, Int32.reduceToInt] at *; omega)
set_option maxRecDepth 4000 in
theorem qX8_stock (n : Nat) (mi : MI) (mr : MR) (c : CT) (hR : RF mr) (hn : 186 ≤ n) (hBD : BD (mi 174) c) (v b : Int32) : Ct KX8_stock 3 0 0 [.ref 173, .int v, .int b] n mi mr (eqQ (some (.int (sStock (mi 174) v b))) n (mStock mi v b) mr) := by
  refine Ct.of2 [some (.ref 173), some (.int v), some (.int b), none] (by decide +kernel) (Nat.le_of_ble_eq_true rfl) rfl ?_
  obtain ⟨⟨hN, hN6⟩, ⟨hW, hW5⟩, ⟨hL, hL5⟩, ⟨hT, hT100⟩, ⟨hS, hS5⟩, ⟨hP, hP8⟩, ⟨hBk, hB8⟩⟩ := hBD.1
  refine V_aload_n dX8_stock_0 rfl ?_
  refine V_iload_n dX8_stock_1 rfl ?_
  refine V_callV (ci := 8) (qX8_isVintage _ _ _ hR hn _) dX8_stock_2 mlX8_175 mtX8_isVintage ivX8_isVintage rfl rfl ⟨by omega, by omega⟩ (by decide) rfl rfl (by decide) (Nat.le_of_ble_eq_true rfl) rfl rfl ?_
  rintro _ _ _ _ ⟨rfl, rfl, rfl, rfl⟩
  simp only [leSub hW (by omega)]
  refine V_if_ne (tgt := 10) dX8_stock_5 (by decide) (fun c5 => ?_) (fun c5 => ?_)
  · refine V_iload_n dX8_stock_10 rfl ?_
    refine V_iconst (v := 0) dX8_stock_11 rfl ?_
    refine V_bipush (v := 99) dX8_stock_12 rfl ?_
    refine V_callS (qX8_in _ _ _ _ _ _) dX8_stock_14 mlX8_53 mtX8_in smX8_in rfl rfl (by decide) (Nat.le_of_ble_eq_true rfl) rfl rfl ?_
    rintro _ _ _ _ ⟨rfl, rfl, rfl, rfl⟩
    refine V_if_ne (tgt := 23) dX8_stock_17 (by decide) (fun c17 => ?_) (fun c17 => ?_)
    · obtain ⟨k, hk1, hk2⟩ := idxC c5 hW
      refine V_aload_n dX8_stock_23 rfl ?_
      refine V_getr (b := 174) 8 1 dX8_stock_24 (Or.inl lkX8_9) rfl rfl ⟨by omega, by omega⟩ (hR _ _ _ rfl) ?_
      refine V_bipush (v := 7) dX8_stock_27 rfl ?_
      refine V_iload_n dX8_stock_29 rfl ?_
      refine V_iadd dX8_stock_30 ?_
      refine V_iald (len := 938) (7 + k) dX8_stock_31 rfl ⟨by omega, by omega⟩ (ix_add (by decide) hk1 (by omega)) (by omega) ?_
      refine V_istore_n (L' := [_, _, _, _]) dX8_stock_32 (by decide) rfl rfl ?_
      refine V_aload_n dX8_stock_33 rfl ?_
      refine V_getr (b := 174) 8 1 dX8_stock_34 (Or.inl lkX8_9) rfl rfl ⟨by omega, by omega⟩ (hR _ _ _ rfl) ?_
      refine V_bipush (v := 7) dX8_stock_37 rfl ?_
      refine V_iload_n dX8_stock_39 rfl ?_
      refine V_iadd dX8_stock_40 ?_
      refine V_iload_n dX8_stock_41 rfl ?_
      refine V_iast (len := 938) (7 + k) dX8_stock_42 rfl ⟨by omega, by omega⟩ (ix_add (by decide) hk1 (by omega)) (by omega) ?_
      refine V_iload_n dX8_stock_43 rfl ?_
      refine V_iret dX8_stock_44 rfl rfl ?_
      clear hR
      (try simp only [b01_0, b01_n] at *)
      refine ⟨?_, rfl, ?_, rfl⟩
      all_goals (simp only [sStock, mStock, okStock]; (try simp only [nat_of_toInt hk1]); repeat' split)
      all_goals first | rfl | (exfalso; simp only [Int32.lt_iff_toInt_lt, Int32.le_iff_toInt_le, ← Int32.toInt_inj, Int32.reduceToInt] at *; omega)
    · refine V_bipush (v := -2) dX8_stock_20 rfl ?_
      refine V_iret dX8_stock_22 rfl rfl ?_
      clear hR
      (try simp only [b01_0, b01_n] at *)
      refine ⟨?_, rfl, ?_, rfl⟩
      all_goals (simp only [sStock, mStock, okStock]; repeat' split)
      all_goals first | rfl | (exfalso; simp only [Int32.lt_iff_toInt_lt, Int32.le_iff_toInt_le, ← Int32.toInt_inj, Int32.reduceToInt] at *; omega)
  · refine V_iconst (v := -1) dX8_stock_8 rfl ?_
    refine V_iret dX8_stock_9 rfl rfl ?_
    clear hR
    (try simp only [b01_0, b01_n] at *)
    refine ⟨?_, rfl, ?_, rfl⟩
    all_goals (simp only [sStock, mStock, okStock]; repeat' split)
    all_goals first | rfl | (exfalso; simp only [Int32.lt_iff_toInt_lt, Int32.le_iff_toInt_le, ← Int32.toInt_inj, Int32.reduceToInt] at *; omega)
def cRow (mi : MI) (p k x : Int32) : MI := if okRow (mi 174) p k x then up2 mi (58 + 2 * p.toNatClampNeg + 1) k.toNatClampNeg x else mi
def mRow (mi : MI) (p k x : Int32) : MI := if okRow (mi 174) p k x then up2 mi 174 (44 + 4 * p.toNatClampNeg + k.toNatClampNeg) x else mi
theorem idx3 {x : Int32} (h1 : 0 ≤ x) (h2 : x ≤ 3) : ∃ k : Nat, x.toInt = (k : Int) ∧ k < 4 := by
  simp only [Int32.le_iff_toInt_le, Int32.reduceToInt] at h1 h2
  exact ⟨x.toInt.toNat, by omega, by omega⟩
set_option maxRecDepth 4000 in
theorem qX7_row (n : Nat) (mi : MI) (mr : MR) (c : CT) (I : INV n mi mr c) (p k x : Int32) : Ct KX7_row 3 0 0 [.ref 32, .int p, .int k, .int x] n mi mr (eqQ (some (.int (sRow (mi 174) p k x))) n (cRow mi p k x) mr) := by
  refine Ct.of2 [some (.ref 32), some (.int p), some (.int k), some (.int x), none, none] (by decide +kernel) (Nat.le_of_ble_eq_true rfl) rfl ?_
  obtain ⟨hR, hn, ⟨⟨hN, hN6⟩, ⟨hW, hW5⟩, ⟨hL, hL5⟩, ⟨hT, hT100⟩, ⟨hS, hS5⟩, ⟨hP, hP8⟩, ⟨hBk, hB8⟩⟩, hrw⟩ := I.facts
  have hBD := I.2.2.1
  obtain ⟨⟨r1, r2, r3, r4, r5⟩, hper, hvin, htape, hseen, hnight, hbook⟩ := id hrw
  have hcN : nat (mi 40 1) (cN c) := by rw [r2]; exact hN
  have hcW : nat (mi 40 2) (cW c) := by rw [r3]; exact hW
  clear I
  refine V_aload_n dX7_row_0 rfl ?_
  refine V_iload_n dX7_row_1 rfl ?_
  refine V_callV (ci := 7) (qX7_isOne _ _ _ hR hn _) dX7_row_2 mlX7_105 mtX7_isOne ivX7_isOne rfl rfl ⟨by omega, by omega⟩ (by decide) rfl rfl (by decide) (Nat.le_of_ble_eq_true rfl) rfl rfl ?_
  rintro _ _ _ _ ⟨rfl, rfl, rfl, rfl⟩
  refine V_if_eq (tgt := 17) dX7_row_5 (by decide) (fun c5 => ?_) (fun c5 => ?_)
  · refine V_iconst (v := -1) dX7_row_17 rfl ?_
    refine V_iret dX7_row_18 rfl rfl ?_
    clear hR
    (try simp only [b01_0, b01_n] at *)
    refine ⟨?_, rfl, ?_, rfl⟩
    all_goals (simp only [sRow, cRow, okRow]; (try simp only [r2]); repeat' split)
    all_goals first | rfl | (exfalso; simp only [Int32.lt_iff_toInt_lt, Int32.le_iff_toInt_le, ← Int32.toInt_inj, Int32.reduceToInt] at *; omega)
  · refine V_iload_n dX7_row_8 rfl ?_
    refine V_if_lt (tgt := 17) dX7_row_9 (by decide) (fun c9 => ?_) (fun c9 => ?_)
    · refine V_iconst (v := -1) dX7_row_17 rfl ?_
      refine V_iret dX7_row_18 rfl rfl ?_
      clear hR
      (try simp only [b01_0, b01_n] at *)
      refine ⟨?_, rfl, ?_, rfl⟩
      all_goals (simp only [sRow, cRow, okRow]; (try simp only [r2]); repeat' split)
      all_goals first | rfl | (exfalso; simp only [Int32.lt_iff_toInt_lt, Int32.le_iff_toInt_le, ← Int32.toInt_inj, Int32.reduceToInt] at *; omega)
    · refine V_iload_n dX7_row_12 rfl ?_
      refine V_iconst (v := 3) dX7_row_13 rfl ?_
      refine V_icmp_le (tgt := 19) dX7_row_14 (by decide) (fun c14 => ?_) (fun c14 => ?_)
      · refine V_iload_n dX7_row_19 rfl ?_
        refine V_callS (qX7_isDigit _ _ _ hR hn _) dX7_row_20 mlX7_79 mtX7_isDigit smX7_isDigit rfl rfl (by decide) (Nat.le_of_ble_eq_true rfl) rfl rfl ?_
        rintro _ _ _ _ ⟨rfl, rfl, rfl, rfl⟩
        refine V_if_ne (tgt := 29) dX7_row_23 (by decide) (fun c23 => ?_) (fun c23 => ?_)
        · obtain ⟨a, ha1, ha2⟩ := idxC c5 hcN
          obtain ⟨q1, q2, q3, q4⟩ := hrw.hasP ha2
          rw [show (40 + 18 : Nat) = 58 from rfl] at q1 q2 q3 q4
          obtain ⟨j, hj1, hj2⟩ := idx3 (Int32.not_lt.mp c9) c14
          refine V_aload_n dX7_row_29 rfl ?_
          refine V_getr (b := 40) 7 1 dX7_row_30 (Or.inl lkX7_30) rfl rfl ⟨by omega, by omega⟩ (hR _ _ _ rfl) ?_
          refine V_getr (b := 41) 6 6 dX7_row_33 lnX7_85 rfl rfl ⟨by omega, by omega⟩ (hR _ _ _ rfl) ?_
          refine V_iload_n dX7_row_36 rfl ?_
          refine V_aald (len := 6) (b := (58 + 2 * a)) 5 a dX7_row_37 rfl rfl ⟨by omega, by omega⟩ ha1 (by omega) (hR _ _ _ (rFolk (Or.inl rfl) (by omega))) ?_
          refine V_astore (L' := [_, _, _, _, _, _]) dX7_row_38 (by decide) rfl rfl ?_
          refine V_aload dX7_row_40 rfl ?_
          refine V_geti 1 1 dX7_row_42 lnX7_108 rfl (sP (pOf (Or.inl rfl) (by omega))) ⟨by omega, by omega⟩ ?_
          refine V_bipush (v := 6) dX7_row_45 rfl ?_
          refine V_icmp_eq (tgt := 53) dX7_row_47 (by decide) (fun c47 => ?_) (fun c47 => ?_)
          · refine V_aload dX7_row_53 rfl ?_
            refine V_getr (b := ((58 + 2 * a) + 1)) 1 6 dX7_row_55 lnX7_136 rfl (sP (pOf (Or.inl rfl) (by omega))) ⟨by omega, by omega⟩ (hR _ _ _ (rP (pOf (Or.inl rfl) (by omega)))) ?_
            refine V_iload_n dX7_row_58 rfl ?_
            refine V_iald (len := 4) j dX7_row_59 (sPr (pOf (Or.inl rfl) (by omega))) ⟨by omega, by omega⟩ hj1 (by omega) ?_
            refine V_istore (L' := [_, _, _, _, _, _]) dX7_row_60 (by decide) rfl rfl ?_
            refine V_aload dX7_row_62 rfl ?_
            refine V_getr (b := ((58 + 2 * a) + 1)) 1 6 dX7_row_64 lnX7_136 rfl (sP (pOf (Or.inl rfl) (by omega))) ⟨by omega, by omega⟩ (hR _ _ _ (rP (pOf (Or.inl rfl) (by omega)))) ?_
            refine V_iload_n dX7_row_67 rfl ?_
            refine V_iload_n dX7_row_68 rfl ?_
            refine V_iast (len := 4) j dX7_row_69 (sPr (pOf (Or.inl rfl) (by omega))) ⟨by omega, by omega⟩ hj1 (by omega) ?_
            refine V_iload dX7_row_70 rfl ?_
            refine V_iret dX7_row_72 rfl rfl ?_
            simp only [q1] at c47
            clear hR
            (try simp only [b01_0, b01_n] at *)
            refine ⟨?_, rfl, ?_, rfl⟩
            all_goals (simp only [sRow, cRow, okRow]; (try simp only [r2, q1, q4 j hj2, nat_of_toInt ha1, nat_of_toInt hj1]); repeat' split)
            all_goals first | rfl | (exfalso; simp only [Int32.lt_iff_toInt_lt, Int32.le_iff_toInt_le, ← Int32.toInt_inj, Int32.reduceToInt] at *; omega)
          · refine V_bipush (v := -3) dX7_row_50 rfl ?_
            refine V_iret dX7_row_52 rfl rfl ?_
            simp only [q1] at c47
            clear hR
            (try simp only [b01_0, b01_n] at *)
            refine ⟨?_, rfl, ?_, rfl⟩
            all_goals (simp only [sRow, cRow, okRow]; (try simp only [r2, q1, q4 j hj2, nat_of_toInt ha1, nat_of_toInt hj1]); repeat' split)
            all_goals first | rfl | (exfalso; simp only [Int32.lt_iff_toInt_lt, Int32.le_iff_toInt_le, ← Int32.toInt_inj, Int32.reduceToInt] at *; omega)
        · refine V_bipush (v := -2) dX7_row_26 rfl ?_
          refine V_iret dX7_row_28 rfl rfl ?_
          clear hR
          (try simp only [b01_0, b01_n] at *)
          refine ⟨?_, rfl, ?_, rfl⟩
          all_goals (simp only [sRow, cRow, okRow]; (try simp only [r2]); repeat' split)
          all_goals first | rfl | (exfalso; simp only [Int32.lt_iff_toInt_lt, Int32.le_iff_toInt_le, ← Int32.toInt_inj, Int32.reduceToInt] at *; omega)
      · refine V_iconst (v := -1) dX7_row_17 rfl ?_
        refine V_iret dX7_row_18 rfl rfl ?_
        clear hR
        (try simp only [b01_0, b01_n] at *)
        refine ⟨?_, rfl, ?_, rfl⟩
        all_goals (simp only [sRow, cRow, okRow]; (try simp only [r2]); repeat' split)
        all_goals first | rfl | (exfalso; simp only [Int32.lt_iff_toInt_lt, Int32.le_iff_toInt_le, ← Int32.toInt_inj, Int32.reduceToInt] at *; omega)
set_option maxRecDepth 4000 in
theorem qX8_row (n : Nat) (mi : MI) (mr : MR) (c : CT) (hR : RF mr) (hn : 186 ≤ n) (hBD : BD (mi 174) c) (p k x : Int32) : Ct KX8_row 3 0 0 [.ref 173, .int p, .int k, .int x] n mi mr (eqQ (some (.int (sRow (mi 174) p k x))) n (mRow mi p k x) mr) := by
  refine Ct.of2 [some (.ref 173), some (.int p), some (.int k), some (.int x), none] (by decide +kernel) (Nat.le_of_ble_eq_true rfl) rfl ?_
  obtain ⟨⟨hN, hN6⟩, ⟨hW, hW5⟩, ⟨hL, hL5⟩, ⟨hT, hT100⟩, ⟨hS, hS5⟩, ⟨hP, hP8⟩, ⟨hBk, hB8⟩⟩ := hBD.1
  refine V_aload_n dX8_row_0 rfl ?_
  refine V_iload_n dX8_row_1 rfl ?_
  refine V_callV (ci := 8) (qX8_isPerson _ _ _ hR hn _) dX8_row_2 mlX8_169 mtX8_isPerson ivX8_isPerson rfl rfl ⟨by omega, by omega⟩ (by decide) rfl rfl (by decide) (Nat.le_of_ble_eq_true rfl) rfl rfl ?_
  rintro _ _ _ _ ⟨rfl, rfl, rfl, rfl⟩
  simp only [leSub hN (by omega)]
  refine V_if_eq (tgt := 17) dX8_row_5 (by decide) (fun c5 => ?_) (fun c5 => ?_)
  · refine V_iconst (v := -1) dX8_row_17 rfl ?_
    refine V_iret dX8_row_18 rfl rfl ?_
    clear hR
    (try simp only [b01_0, b01_n] at *)
    refine ⟨?_, rfl, ?_, rfl⟩
    all_goals (simp only [sRow, mRow, okRow]; repeat' split)
    all_goals first | rfl | (exfalso; simp only [Int32.lt_iff_toInt_lt, Int32.le_iff_toInt_le, ← Int32.toInt_inj, Int32.reduceToInt] at *; omega)
  · refine V_iload_n dX8_row_8 rfl ?_
    refine V_iconst (v := 0) dX8_row_9 rfl ?_
    refine V_iconst (v := 3) dX8_row_10 rfl ?_
    refine V_callS (qX8_in _ _ _ _ _ _) dX8_row_11 mlX8_53 mtX8_in smX8_in rfl rfl (by decide) (Nat.le_of_ble_eq_true rfl) rfl rfl ?_
    rintro _ _ _ _ ⟨rfl, rfl, rfl, rfl⟩
    refine V_if_ne (tgt := 19) dX8_row_14 (by decide) (fun c14 => ?_) (fun c14 => ?_)
    · refine V_iload_n dX8_row_19 rfl ?_
      refine V_iconst (v := 0) dX8_row_20 rfl ?_
      refine V_bipush (v := 9) dX8_row_21 rfl ?_
      refine V_callS (qX8_in _ _ _ _ _ _) dX8_row_23 mlX8_53 mtX8_in smX8_in rfl rfl (by decide) (Nat.le_of_ble_eq_true rfl) rfl rfl ?_
      rintro _ _ _ _ ⟨rfl, rfl, rfl, rfl⟩
      refine V_if_ne (tgt := 32) dX8_row_26 (by decide) (fun c26 => ?_) (fun c26 => ?_)
      · obtain ⟨a, ha1, ha2⟩ := idxC c5 hN
        obtain ⟨j, hj1, hj2⟩ := idx3 (b01_n.mp c14).1 (b01_n.mp c14).2
        refine V_aload_n dX8_row_32 rfl ?_
        refine V_getr (b := 174) 8 1 dX8_row_33 (Or.inl lkX8_9) rfl rfl ⟨by omega, by omega⟩ (hR _ _ _ rfl) ?_
        refine V_bipush (v := 20) dX8_row_36 rfl ?_
        refine V_iload_n dX8_row_38 rfl ?_
        refine V_iadd dX8_row_39 ?_
        refine V_iald (len := 938) (20 + a) dX8_row_40 rfl ⟨by omega, by omega⟩ (ix_add (by decide) ha1 (by omega)) (by omega) ?_
        refine V_bipush (v := 6) dX8_row_41 rfl ?_
        refine V_icmp_eq (tgt := 49) dX8_row_43 (by decide) (fun c43 => ?_) (fun c43 => ?_)
        · refine V_aload_n dX8_row_49 rfl ?_
          refine V_getr (b := 174) 8 1 dX8_row_50 (Or.inl lkX8_9) rfl rfl ⟨by omega, by omega⟩ (hR _ _ _ rfl) ?_
          refine V_bipush (v := 44) dX8_row_53 rfl ?_
          refine V_iconst (v := 4) dX8_row_55 rfl ?_
          refine V_iload_n dX8_row_56 rfl ?_
          refine V_imul dX8_row_57 ?_
          refine V_iadd dX8_row_58 ?_
          refine V_iload_n dX8_row_59 rfl ?_
          refine V_iadd dX8_row_60 ?_
          refine V_iald (len := 938) ((44 + (4 * a)) + j) dX8_row_61 rfl ⟨by omega, by omega⟩ (ix_add (ix_add (by decide) (ix_mul (by decide) ha1 (by omega)) (by omega)) hj1 (by omega)) (by omega) ?_
          refine V_istore (L' := [_, _, _, _, _]) dX8_row_62 (by decide) rfl rfl ?_
          refine V_aload_n dX8_row_64 rfl ?_
          refine V_getr (b := 174) 8 1 dX8_row_65 (Or.inl lkX8_9) rfl rfl ⟨by omega, by omega⟩ (hR _ _ _ rfl) ?_
          refine V_bipush (v := 44) dX8_row_68 rfl ?_
          refine V_iconst (v := 4) dX8_row_70 rfl ?_
          refine V_iload_n dX8_row_71 rfl ?_
          refine V_imul dX8_row_72 ?_
          refine V_iadd dX8_row_73 ?_
          refine V_iload_n dX8_row_74 rfl ?_
          refine V_iadd dX8_row_75 ?_
          refine V_iload_n dX8_row_76 rfl ?_
          refine V_iast (len := 938) ((44 + (4 * a)) + j) dX8_row_77 rfl ⟨by omega, by omega⟩ (ix_add (ix_add (by decide) (ix_mul (by decide) ha1 (by omega)) (by omega)) hj1 (by omega)) (by omega) ?_
          refine V_iload dX8_row_78 rfl ?_
          refine V_iret dX8_row_80 rfl rfl ?_
          clear hR
          (try simp only [b01_0, b01_n] at *)
          refine ⟨?_, rfl, ?_, rfl⟩
          all_goals (simp only [sRow, mRow, okRow]; (try simp only [nat_of_toInt ha1, nat_of_toInt hj1]); repeat' split)
          all_goals first | rfl | (exfalso; simp only [Int32.lt_iff_toInt_lt, Int32.le_iff_toInt_le, ← Int32.toInt_inj, Int32.reduceToInt] at *; omega)
        · refine V_bipush (v := -3) dX8_row_46 rfl ?_
          refine V_iret dX8_row_48 rfl rfl ?_
          clear hR
          (try simp only [b01_0, b01_n] at *)
          refine ⟨?_, rfl, ?_, rfl⟩
          all_goals (simp only [sRow, mRow, okRow]; (try simp only [nat_of_toInt ha1, nat_of_toInt hj1]); repeat' split)
          all_goals first | rfl | (exfalso; simp only [Int32.lt_iff_toInt_lt, Int32.le_iff_toInt_le, ← Int32.toInt_inj, Int32.reduceToInt] at *; omega)
      · refine V_bipush (v := -2) dX8_row_29 rfl ?_
        refine V_iret dX8_row_31 rfl rfl ?_
        clear hR
        (try simp only [b01_0, b01_n] at *)
        refine ⟨?_, rfl, ?_, rfl⟩
        all_goals (simp only [sRow, mRow, okRow]; repeat' split)
        all_goals first | rfl | (exfalso; simp only [Int32.lt_iff_toInt_lt, Int32.le_iff_toInt_le, ← Int32.toInt_inj, Int32.reduceToInt] at *; omega)
    · refine V_iconst (v := -1) dX8_row_17 rfl ?_
      refine V_iret dX8_row_18 rfl rfl ?_
      clear hR
      (try simp only [b01_0, b01_n] at *)
      refine ⟨?_, rfl, ?_, rfl⟩
      all_goals (simp only [sRow, mRow, okRow]; repeat' split)
      all_goals first | rfl | (exfalso; simp only [Int32.lt_iff_toInt_lt, Int32.le_iff_toInt_le, ← Int32.toInt_inj, Int32.reduceToInt] at *; omega)
def cDry (mi : MI) (p : Int32) : MI := if 0 ≤ p ∧ p < mi 174 12 then up2 mi (58 + 2 * p.toNatClampNeg) 5 (-1) else mi
def mDry (mi : MI) (p : Int32) : MI := if 0 ≤ p ∧ p < mi 174 12 then up2 mi 174 (1 + p.toNatClampNeg) (-1) else mi
set_option maxRecDepth 4000 in
theorem qX7_dry (n : Nat) (mi : MI) (mr : MR) (c : CT) (I : INV n mi mr c) (p : Int32) : Ct KX7_dry 3 0 0 [.ref 32, .int p] n mi mr (eqQ (some (.int (sDry (mi 174) p))) n (cDry mi p) mr) := by
  refine Ct.of2 [some (.ref 32), some (.int p), none] (by decide +kernel) (Nat.le_of_ble_eq_true rfl) rfl ?_
  obtain ⟨hR, hn, ⟨⟨hN, hN6⟩, ⟨hW, hW5⟩, ⟨hL, hL5⟩, ⟨hT, hT100⟩, ⟨hS, hS5⟩, ⟨hP, hP8⟩, ⟨hBk, hB8⟩⟩, hrw⟩ := I.facts
  have hBD := I.2.2.1
  obtain ⟨⟨r1, r2, r3, r4, r5⟩, hper, hvin, htape, hseen, hnight, hbook⟩ := id hrw
  have hcN : nat (mi 40 1) (cN c) := by rw [r2]; exact hN
  have hcW : nat (mi 40 2) (cW c) := by rw [r3]; exact hW
  clear I
  refine V_aload_n dX7_dry_0 rfl ?_
  refine V_iload_n dX7_dry_1 rfl ?_
  refine V_callV (ci := 7) (qX7_isOne _ _ _ hR hn _) dX7_dry_2 mlX7_105 mtX7_isOne ivX7_isOne rfl rfl ⟨by omega, by omega⟩ (by decide) rfl rfl (by decide) (Nat.le_of_ble_eq_true rfl) rfl rfl ?_
  rintro _ _ _ _ ⟨rfl, rfl, rfl, rfl⟩
  refine V_if_ne (tgt := 10) dX7_dry_5 (by decide) (fun c5 => ?_) (fun c5 => ?_)
  · obtain ⟨a, ha1, ha2⟩ := idxC c5 hcN
    obtain ⟨q1, q2, q3, q4⟩ := hrw.hasP ha2
    rw [show (40 + 18 : Nat) = 58 from rfl] at q1 q2 q3 q4
    refine V_aload_n dX7_dry_10 rfl ?_
    refine V_getr (b := 40) 7 1 dX7_dry_11 (Or.inl lkX7_30) rfl rfl ⟨by omega, by omega⟩ (hR _ _ _ rfl) ?_
    refine V_getr (b := 41) 6 6 dX7_dry_14 lnX7_85 rfl rfl ⟨by omega, by omega⟩ (hR _ _ _ rfl) ?_
    refine V_iload_n dX7_dry_17 rfl ?_
    refine V_aald (len := 6) (b := (58 + 2 * a)) 5 a dX7_dry_18 rfl rfl ⟨by omega, by omega⟩ ha1 (by omega) (hR _ _ _ (rFolk (Or.inl rfl) (by omega))) ?_
    refine V_geti 1 5 dX7_dry_19 lnX7_120 rfl (sP (pOf (Or.inl rfl) (by omega))) ⟨by omega, by omega⟩ ?_
    refine V_istore_n (L' := [_, _, _]) dX7_dry_22 (by decide) rfl rfl ?_
    refine V_aload_n dX7_dry_23 rfl ?_
    refine V_getr (b := 40) 7 1 dX7_dry_24 (Or.inl lkX7_30) rfl rfl ⟨by omega, by omega⟩ (hR _ _ _ rfl) ?_
    refine V_getr (b := 41) 6 6 dX7_dry_27 lnX7_85 rfl rfl ⟨by omega, by omega⟩ (hR _ _ _ rfl) ?_
    refine V_iload_n dX7_dry_30 rfl ?_
    refine V_aald (len := 6) (b := (58 + 2 * a)) 5 a dX7_dry_31 rfl rfl ⟨by omega, by omega⟩ ha1 (by omega) (hR _ _ _ (rFolk (Or.inl rfl) (by omega))) ?_
    refine V_iconst (v := -1) dX7_dry_32 rfl ?_
    refine V_puti 1 5 dX7_dry_33 lnX7_120 rfl rfl rfl (sP (pOf (Or.inl rfl) (by omega))) ⟨by omega, by omega⟩ ?_
    refine V_iload_n dX7_dry_36 rfl ?_
    refine V_callS (qX7_shown _ _ _ hR hn _) dX7_dry_37 mlX7_123 mtX7_shown smX7_shown rfl rfl (by decide) (Nat.le_of_ble_eq_true rfl) rfl rfl ?_
    rintro _ _ _ _ ⟨rfl, rfl, rfl, rfl⟩
    refine V_iret dX7_dry_40 rfl rfl ?_
    clear hR
    (try simp only [b01_0, b01_n] at *)
    refine ⟨?_, rfl, ?_, rfl⟩
    all_goals (simp only [sDry, cDry]; (try simp only [r2, q3, nat_of_toInt ha1]); repeat' split)
    all_goals first | rfl | (exfalso; simp only [Int32.lt_iff_toInt_lt, Int32.le_iff_toInt_le, ← Int32.toInt_inj, Int32.reduceToInt] at *; omega)
  · refine V_iconst (v := -1) dX7_dry_8 rfl ?_
    refine V_iret dX7_dry_9 rfl rfl ?_
    clear hR
    (try simp only [b01_0, b01_n] at *)
    refine ⟨?_, rfl, ?_, rfl⟩
    all_goals (simp only [sDry, cDry]; (try simp only [r2]); repeat' split)
    all_goals first | rfl | (exfalso; simp only [Int32.lt_iff_toInt_lt, Int32.le_iff_toInt_le, ← Int32.toInt_inj, Int32.reduceToInt] at *; omega)
set_option maxRecDepth 4000 in
theorem qX8_dry (n : Nat) (mi : MI) (mr : MR) (c : CT) (hR : RF mr) (hn : 186 ≤ n) (hBD : BD (mi 174) c) (p : Int32) : Ct KX8_dry 3 0 0 [.ref 173, .int p] n mi mr (eqQ (some (.int (sDry (mi 174) p))) n (mDry mi p) mr) := by
  refine Ct.of2 [some (.ref 173), some (.int p), none] (by decide +kernel) (Nat.le_of_ble_eq_true rfl) rfl ?_
  obtain ⟨⟨hN, hN6⟩, ⟨hW, hW5⟩, ⟨hL, hL5⟩, ⟨hT, hT100⟩, ⟨hS, hS5⟩, ⟨hP, hP8⟩, ⟨hBk, hB8⟩⟩ := hBD.1
  refine V_aload_n dX8_dry_0 rfl ?_
  refine V_iload_n dX8_dry_1 rfl ?_
  refine V_callV (ci := 8) (qX8_isPerson _ _ _ hR hn _) dX8_dry_2 mlX8_169 mtX8_isPerson ivX8_isPerson rfl rfl ⟨by omega, by omega⟩ (by decide) rfl rfl (by decide) (Nat.le_of_ble_eq_true rfl) rfl rfl ?_
  rintro _ _ _ _ ⟨rfl, rfl, rfl, rfl⟩
  simp only [leSub hN (by omega)]
  refine V_if_ne (tgt := 10) dX8_dry_5 (by decide) (fun c5 => ?_) (fun c5 => ?_)
  · obtain ⟨a, ha1, ha2⟩ := idxC c5 hN
    refine V_aload_n dX8_dry_10 rfl ?_
    refine V_getr (b := 174) 8 1 dX8_dry_11 (Or.inl lkX8_9) rfl rfl ⟨by omega, by omega⟩ (hR _ _ _ rfl) ?_
    refine V_iconst (v := 1) dX8_dry_14 rfl ?_
    refine V_iload_n dX8_dry_15 rfl ?_
    refine V_iadd dX8_dry_16 ?_
    refine V_iald (len := 938) (1 + a) dX8_dry_17 rfl ⟨by omega, by omega⟩ (ix_add (by decide) ha1 (by omega)) (by omega) ?_
    refine V_callS (qX8_orNone _ _ _ hR hn _) dX8_dry_18 mlX8_172 mtX8_orNone smX8_orNone rfl rfl (by decide) (Nat.le_of_ble_eq_true rfl) rfl rfl ?_
    rintro _ _ _ _ ⟨rfl, rfl, rfl, rfl⟩
    refine V_istore_n (L' := [_, _, _]) dX8_dry_21 (by decide) rfl rfl ?_
    refine V_aload_n dX8_dry_22 rfl ?_
    refine V_getr (b := 174) 8 1 dX8_dry_23 (Or.inl lkX8_9) rfl rfl ⟨by omega, by omega⟩ (hR _ _ _ rfl) ?_
    refine V_iconst (v := 1) dX8_dry_26 rfl ?_
    refine V_iload_n dX8_dry_27 rfl ?_
    refine V_iadd dX8_dry_28 ?_
    refine V_iconst (v := -1) dX8_dry_29 rfl ?_
    refine V_iast (len := 938) (1 + a) dX8_dry_30 rfl ⟨by omega, by omega⟩ (ix_add (by decide) ha1 (by omega)) (by omega) ?_
    refine V_iload_n dX8_dry_31 rfl ?_
    refine V_iret dX8_dry_32 rfl rfl ?_
    clear hR
    (try simp only [b01_0, b01_n] at *)
    refine ⟨?_, rfl, ?_, rfl⟩
    all_goals (simp only [sDry, mDry]; (try simp only [nat_of_toInt ha1]); repeat' split)
    all_goals first | rfl | (exfalso; simp only [Int32.lt_iff_toInt_lt, Int32.le_iff_toInt_le, ← Int32.toInt_inj, Int32.reduceToInt] at *; omega)
  · refine V_iconst (v := -1) dX8_dry_8 rfl ?_
    refine V_iret dX8_dry_9 rfl rfl ?_
    clear hR
    (try simp only [b01_0, b01_n] at *)
    refine ⟨?_, rfl, ?_, rfl⟩
    all_goals (simp only [sDry, mDry]; repeat' split)
    all_goals first | rfl | (exfalso; simp only [Int32.lt_iff_toInt_lt, Int32.le_iff_toInt_le, ← Int32.toInt_inj, Int32.reduceToInt] at *; omega)
theorem chr_id {x : Int32} (h1 : 0 ≤ x) (h2 : x ≤ 127) : (x.toUInt32 % 65536).toInt32 = x ∧ narrow .char (.int x) = .int x := by
  simp only [Int32.le_iff_toInt_le, Int32.reduceToInt] at h1 h2
  have e : ∀ k : Fin 128, ((nI k.1).toUInt32 % 65536).toInt32 = nI k.1 ∧ narrow .char (.int (nI k.1)) = .int (nI k.1) := by decide
  have hx : x.toInt = ((x.toInt.toNat : Nat) : Int) := by omega
  have g := e ⟨x.toInt.toNat, by omega⟩
  simp only [← nI_of_toInt hx] at g
  exact g
def cFeed (mi : MI) (x : Int32) : MI := if (0 ≤ x ∧ x ≤ 127) ∧ mi 174 17 < 100 then up2 (up2 mi 40 4 (mi 174 17 + 1)) 44 (mi 174 17).toNatClampNeg x else mi
def mFeed (mi : MI) (x : Int32) : MI := if (0 ≤ x ∧ x ≤ 127) ∧ mi 174 17 < 100 then up2 (up2 mi 174 (123 + (mi 174 17).toNatClampNeg) x) 174 17 (mi 174 17 + 1) else mi
theorem lt_of100 {x : Int32} {N : Nat} (h : nat x N) (h2 : x < 100) : N < 100 := by
  unfold nat at h
  simp only [Int32.lt_iff_toInt_lt, Int32.reduceToInt] at h2
  omega
set_option maxRecDepth 4000 in
theorem qX7_feed (n : Nat) (mi : MI) (mr : MR) (c : CT) (I : INV n mi mr c) (x : Int32) : Ct KX7_feed 3 0 0 [.ref 32, .int x] n mi mr (eqQ (some (.int (sFeed (mi 174) x))) n (cFeed mi x) mr) := by
  refine Ct.of2 [some (.ref 32), some (.int x)] (by decide +kernel) (Nat.le_of_ble_eq_true rfl) rfl ?_
  obtain ⟨hR, hn, ⟨⟨hN, hN6⟩, ⟨hW, hW5⟩, ⟨hL, hL5⟩, ⟨hT, hT100⟩, ⟨hS, hS5⟩, ⟨hP, hP8⟩, ⟨hBk, hB8⟩⟩, hrw⟩ := I.facts
  have hBD := I.2.2.1
  obtain ⟨⟨r1, r2, r3, r4, r5⟩, hper, hvin, htape, hseen, hnight, hbook⟩ := id hrw
  have hcN : nat (mi 40 1) (cN c) := by rw [r2]; exact hN
  have hcW : nat (mi 40 2) (cW c) := by rw [r3]; exact hW
  clear I
  refine V_iload_n dX7_feed_0 rfl ?_
  refine V_if_lt (tgt := 10) dX7_feed_1 (by decide) (fun c1 => ?_) (fun c1 => ?_)
  · refine V_bipush (v := -2) dX7_feed_10 rfl ?_
    refine V_iret dX7_feed_12 rfl rfl ?_
    clear hR
    (try simp only [b01_0, b01_n] at *)
    refine ⟨?_, rfl, ?_, rfl⟩
    all_goals (simp only [sFeed, cFeed]; (try simp only [r5]); repeat' split)
    all_goals first | rfl | (exfalso; simp only [Int32.lt_iff_toInt_lt, Int32.le_iff_toInt_le, ← Int32.toInt_inj, Int32.reduceToInt] at *; omega)
  · refine V_iload_n dX7_feed_4 rfl ?_
    refine V_bipush (v := 127) dX7_feed_5 rfl ?_
    refine V_icmp_le (tgt := 13) dX7_feed_7 (by decide) (fun c7 => ?_) (fun c7 => ?_)
    · refine V_aload_n dX7_feed_13 rfl ?_
      refine V_getr (b := 40) 7 1 dX7_feed_14 (Or.inl lkX7_30) rfl rfl ⟨by omega, by omega⟩ (hR _ _ _ rfl) ?_
      refine V_geti 6 4 dX7_feed_17 lnX7_49 rfl rfl ⟨by omega, by omega⟩ ?_
      refine V_bipush (v := 100) dX7_feed_20 rfl ?_
      refine V_icmp_lt (tgt := 28) dX7_feed_22 (by decide) (fun c22 => ?_) (fun c22 => ?_)
      · rw [r5] at c22
        have hlt := lt_of100 hT c22
        obtain ⟨i1, i2⟩ := chr_id (Int32.not_lt.mp c1) c7
        refine V_aload_n dX7_feed_28 rfl ?_
        refine V_getr (b := 40) 7 1 dX7_feed_29 (Or.inl lkX7_30) rfl rfl ⟨by omega, by omega⟩ (hR _ _ _ rfl) ?_
        refine V_getr (b := 44) 6 9 dX7_feed_32 lnX7_53 rfl rfl ⟨by omega, by omega⟩ (hR _ _ _ rfl) ?_
        refine V_aload_n dX7_feed_35 rfl ?_
        refine V_getr (b := 40) 7 1 dX7_feed_36 (Or.inl lkX7_30) rfl rfl ⟨by omega, by omega⟩ (hR _ _ _ rfl) ?_
        refine V_dup dX7_feed_39 rfl ?_
        refine V_geti 6 4 dX7_feed_40 lnX7_49 rfl rfl ⟨by omega, by omega⟩ ?_
        refine V_dup_x1 dX7_feed_43 rfl rfl ?_
        refine V_iconst (v := 1) dX7_feed_44 rfl ?_
        refine V_iadd dX7_feed_45 ?_
        refine V_puti 6 4 dX7_feed_46 lnX7_49 rfl rfl rfl rfl ⟨by omega, by omega⟩ ?_
        refine V_iload_n dX7_feed_49 rfl ?_
        refine V_i2c dX7_feed_50 ?_
        rw [i1]
        refine V_cast (len := 100) (cT c) dX7_feed_51 rfl ⟨by omega, by omega⟩ (by rw [r5]; exact hT) (by omega) i2 ?_
        refine V_aload_n dX7_feed_52 rfl ?_
        refine V_getr (b := 40) 7 1 dX7_feed_53 (Or.inl lkX7_30) rfl rfl ⟨by omega, by omega⟩ (hR _ _ _ rfl) ?_
        refine V_geti 6 4 dX7_feed_56 lnX7_49 rfl rfl ⟨by omega, by omega⟩ ?_
        refine V_iret dX7_feed_59 rfl rfl ?_
        have e4 : up2 (up2 mi 40 4 (mi 40 4 + 1)) 44 (cT c) x 40 4 = mi 174 17 + 1 := by rw [show up2 (up2 mi 40 4 (mi 40 4 + 1)) 44 (cT c) x 40 4 = mi 40 4 + 1 from rfl, r5]
        refine ⟨?_, rfl, ?_, rfl⟩
        · rw [e4]
          unfold sFeed
          rw [if_pos ⟨Int32.not_lt.mp c1, c7⟩, if_pos c22]
        · unfold cFeed
          rw [if_pos ⟨⟨Int32.not_lt.mp c1, c7⟩, c22⟩, nat_of_toInt hT, r5]
      · refine V_bipush (v := -4) dX7_feed_25 rfl ?_
        refine V_iret dX7_feed_27 rfl rfl ?_
        rw [r5] at c22
        clear hR
        (try simp only [b01_0, b01_n] at *)
        refine ⟨?_, rfl, ?_, rfl⟩
        all_goals (simp only [sFeed, cFeed]; (try simp only [r5]); repeat' split)
        all_goals first | rfl | (exfalso; simp only [Int32.lt_iff_toInt_lt, Int32.le_iff_toInt_le, ← Int32.toInt_inj, Int32.reduceToInt] at *; omega)
    · refine V_bipush (v := -2) dX7_feed_10 rfl ?_
      refine V_iret dX7_feed_12 rfl rfl ?_
      clear hR
      (try simp only [b01_0, b01_n] at *)
      refine ⟨?_, rfl, ?_, rfl⟩
      all_goals (simp only [sFeed, cFeed]; (try simp only [r5]); repeat' split)
      all_goals first | rfl | (exfalso; simp only [Int32.lt_iff_toInt_lt, Int32.le_iff_toInt_le, ← Int32.toInt_inj, Int32.reduceToInt] at *; omega)
set_option maxRecDepth 4000 in
theorem qX8_feed (n : Nat) (mi : MI) (mr : MR) (c : CT) (hR : RF mr) (hn : 186 ≤ n) (hBD : BD (mi 174) c) (x : Int32) : Ct KX8_feed 3 0 0 [.ref 173, .int x] n mi mr (eqQ (some (.int (sFeed (mi 174) x))) n (mFeed mi x) mr) := by
  refine Ct.of2 [some (.ref 173), some (.int x)] (by decide +kernel) (Nat.le_of_ble_eq_true rfl) rfl ?_
  obtain ⟨⟨hN, hN6⟩, ⟨hW, hW5⟩, ⟨hL, hL5⟩, ⟨hT, hT100⟩, ⟨hS, hS5⟩, ⟨hP, hP8⟩, ⟨hBk, hB8⟩⟩ := hBD.1
  refine V_iload_n dX8_feed_0 rfl ?_
  refine V_iconst (v := 0) dX8_feed_1 rfl ?_
  refine V_bipush (v := 127) dX8_feed_2 rfl ?_
  refine V_callS (qX8_in _ _ _ _ _ _) dX8_feed_4 mlX8_53 mtX8_in smX8_in rfl rfl (by decide) (Nat.le_of_ble_eq_true rfl) rfl rfl ?_
  rintro _ _ _ _ ⟨rfl, rfl, rfl, rfl⟩
  refine V_if_ne (tgt := 13) dX8_feed_7 (by decide) (fun c7 => ?_) (fun c7 => ?_)
  · refine V_aload_n dX8_feed_13 rfl ?_
    refine V_getr (b := 174) 8 1 dX8_feed_14 (Or.inl lkX8_9) rfl rfl ⟨by omega, by omega⟩ (hR _ _ _ rfl) ?_
    refine V_bipush (v := 17) dX8_feed_17 rfl ?_
    refine V_iald (len := 938) 17 dX8_feed_19 rfl ⟨by omega, by omega⟩ (by decide) (by omega) ?_
    refine V_bipush (v := 100) dX8_feed_20 rfl ?_
    refine V_icmp_ne (tgt := 28) dX8_feed_22 (by decide) (fun c22 => ?_) (fun c22 => ?_)
    · have hlt : cT c < 100 := by
        have h7 := hT
        unfold nat at h7
        simp only [← Int32.toInt_inj, Int32.reduceToInt] at c22
        omega
      have c22b : mi 174 17 < 100 := by
        have h7 := hT
        unfold nat at h7
        simp only [Int32.lt_iff_toInt_lt, Int32.reduceToInt]
        omega
      refine V_aload_n dX8_feed_28 rfl ?_
      refine V_getr (b := 174) 8 1 dX8_feed_29 (Or.inl lkX8_9) rfl rfl ⟨by omega, by omega⟩ (hR _ _ _ rfl) ?_
      refine V_bipush (v := 123) dX8_feed_32 rfl ?_
      refine V_aload_n dX8_feed_34 rfl ?_
      refine V_getr (b := 174) 8 1 dX8_feed_35 (Or.inl lkX8_9) rfl rfl ⟨by omega, by omega⟩ (hR _ _ _ rfl) ?_
      refine V_bipush (v := 17) dX8_feed_38 rfl ?_
      refine V_iald (len := 938) 17 dX8_feed_40 rfl ⟨by omega, by omega⟩ (by decide) (by omega) ?_
      refine V_iadd dX8_feed_41 ?_
      refine V_iload_n dX8_feed_42 rfl ?_
      refine V_iast (len := 938) (123 + (cT c)) dX8_feed_43 rfl ⟨by omega, by omega⟩ (ix_add (by decide) hT (by omega)) (by omega) ?_
      refine V_aload_n dX8_feed_44 rfl ?_
      refine V_getr (b := 174) 8 1 dX8_feed_45 (Or.inl lkX8_9) rfl rfl ⟨by omega, by omega⟩ (hR _ _ _ rfl) ?_
      refine V_bipush (v := 17) dX8_feed_48 rfl ?_
      refine V_dup2 dX8_feed_50 rfl rfl ?_
      refine V_iald (len := 938) 17 dX8_feed_51 rfl ⟨by omega, by omega⟩ (by decide) (by omega) ?_
      refine V_iconst (v := 1) dX8_feed_52 rfl ?_
      refine V_iadd dX8_feed_53 ?_
      refine V_iast (len := 938) 17 dX8_feed_54 rfl ⟨by omega, by omega⟩ (by decide) (by omega) ?_
      refine V_aload_n dX8_feed_55 rfl ?_
      refine V_getr (b := 174) 8 1 dX8_feed_56 (Or.inl lkX8_9) rfl rfl ⟨by omega, by omega⟩ (hR _ _ _ rfl) ?_
      refine V_bipush (v := 17) dX8_feed_59 rfl ?_
      refine V_iald (len := 938) 17 dX8_feed_61 rfl ⟨by omega, by omega⟩ (by decide) (by omega) ?_
      refine V_iret dX8_feed_62 rfl rfl ?_
      obtain ⟨j1, j2⟩ := b01_n.mp c7
      have e4 : ∀ z, up2 (up2 mi 174 (123 + cT c) x) 174 17 z 174 17 = z := fun z => up2_s
      have e5 : up2 mi 174 (123 + cT c) x 174 17 = mi 174 17 := by simp only [up2]; rw [if_neg (by omega)]
      refine ⟨?_, rfl, ?_, rfl⟩
      · rw [e4, e5]
        unfold sFeed
        rw [if_pos ⟨j1, j2⟩, if_pos c22b]
      · unfold mFeed
        rw [if_pos ⟨⟨j1, j2⟩, c22b⟩, nat_of_toInt hT, e5]
    · refine V_bipush (v := -4) dX8_feed_25 rfl ?_
      refine V_iret dX8_feed_27 rfl rfl ?_
      clear hR
      (try simp only [b01_0, b01_n] at *)
      refine ⟨?_, rfl, ?_, rfl⟩
      all_goals (simp only [sFeed, mFeed]; repeat' split)
      all_goals first | rfl | (exfalso; simp only [Int32.lt_iff_toInt_lt, Int32.le_iff_toInt_le, ← Int32.toInt_inj, Int32.reduceToInt] at *; omega)
  · refine V_bipush (v := -2) dX8_feed_10 rfl ?_
    refine V_iret dX8_feed_12 rfl rfl ?_
    clear hR
    (try simp only [b01_0, b01_n] at *)
    refine ⟨?_, rfl, ?_, rfl⟩
    all_goals (simp only [sFeed, mFeed]; repeat' split)
    all_goals first | rfl | (exfalso; simp only [Int32.lt_iff_toInt_lt, Int32.le_iff_toInt_le, ← Int32.toInt_inj, Int32.reduceToInt] at *; omega)
def sVintage (S : Nat → Int32) (y b : Int32) : Int32 := if (0 ≤ y ∧ y < 200) ∧ 0 ≤ b ∧ b ≤ 99 then (if S 19 < 5 then S 19 else -4) else -2
abbrev okVintage (S : Nat → Int32) (y b : Int32) : Prop := ((0 ≤ y ∧ y < 200) ∧ 0 ≤ b ∧ b ≤ 99) ∧ S 19 < 5
/-- a vintage more -/
def addC (mi : MI) (N : Nat) (y b z : Int32) : MI := up2 (up2 (up2 mi 42 N y) 43 N b) 40 2 z
def addM (mi : MI) (N : Nat) (y b z : Int32) : MI := up2 (up2 (up2 mi 174 (68 + N) y) 174 (7 + N) b) 174 19 z
def cVintage (mi : MI) (y b : Int32) : MI := if okVintage (mi 174) y b then addC mi (mi 174 19).toNatClampNeg y b (mi 174 19 + 1) else mi
def mVintage (mi : MI) (y b : Int32) : MI := if okVintage (mi 174) y b then addM mi (mi 174 19).toNatClampNeg y b (mi 174 19 + 1) else mi
theorem lt_of5 {x : Int32} {N : Nat} (h : nat x N) (h2 : x < 5) : N < 5 := by
  unfold nat at h
  simp only [Int32.lt_iff_toInt_lt, Int32.reduceToInt] at h2
  omega
set_option maxRecDepth 4000 in
theorem qX7_vintage (n : Nat) (mi : MI) (mr : MR) (c : CT) (I : INV n mi mr c) (y b : Int32) : Ct KX7_vintage 3 0 0 [.ref 32, .int y, .int b] n mi mr (eqQ (some (.int (sVintage (mi 174) y b))) n (cVintage mi y b) mr) := by
  refine Ct.of2 [some (.ref 32), some (.int y), some (.int b)] (by decide +kernel) (Nat.le_of_ble_eq_true rfl) rfl ?_
  obtain ⟨hR, hn, ⟨⟨hN, hN6⟩, ⟨hW, hW5⟩, ⟨hL, hL5⟩, ⟨hT, hT100⟩, ⟨hS, hS5⟩, ⟨hP, hP8⟩, ⟨hBk, hB8⟩⟩, hrw⟩ := I.facts
  have hBD := I.2.2.1
  obtain ⟨⟨r1, r2, r3, r4, r5⟩, hper, hvin, htape, hseen, hnight, hbook⟩ := id hrw
  have hcN : nat (mi 40 1) (cN c) := by rw [r2]; exact hN
  have hcW : nat (mi 40 2) (cW c) := by rw [r3]; exact hW
  clear I
  refine V_iload_n dX7_vintage_0 rfl ?_
  refine V_if_lt (tgt := 18) dX7_vintage_1 (by decide) (fun c1 => ?_) (fun c1 => ?_)
  · refine V_bipush (v := -2) dX7_vintage_18 rfl ?_
    refine V_iret dX7_vintage_20 rfl rfl ?_
    clear hR
    (try simp only [b01_0, b01_n] at *)
    refine ⟨?_, rfl, ?_, rfl⟩
    all_goals (simp only [sVintage, cVintage, okVintage]; repeat' split)
    all_goals first | rfl | (exfalso; simp only [Int32.lt_iff_toInt_lt, Int32.le_iff_toInt_le, ← Int32.toInt_inj, Int32.reduceToInt] at *; omega)
  · refine V_iload_n dX7_vintage_4 rfl ?_
    refine V_sipush (v := 200) dX7_vintage_5 rfl ?_
    refine V_icmp_ge (tgt := 18) dX7_vintage_8 (by decide) (fun c8 => ?_) (fun c8 => ?_)
    · refine V_bipush (v := -2) dX7_vintage_18 rfl ?_
      refine V_iret dX7_vintage_20 rfl rfl ?_
      clear hR
      (try simp only [b01_0, b01_n] at *)
      refine ⟨?_, rfl, ?_, rfl⟩
      all_goals (simp only [sVintage, cVintage, okVintage]; repeat' split)
      all_goals first | rfl | (exfalso; simp only [Int32.lt_iff_toInt_lt, Int32.le_iff_toInt_le, ← Int32.toInt_inj, Int32.reduceToInt] at *; omega)
    · refine V_iload_n dX7_vintage_11 rfl ?_
      refine V_callS (qX7_isBottles _ _ _ hR hn _) dX7_vintage_12 mlX7_95 mtX7_isBottles smX7_isBottles rfl rfl (by decide) (Nat.le_of_ble_eq_true rfl) rfl rfl ?_
      rintro _ _ _ _ ⟨rfl, rfl, rfl, rfl⟩
      refine V_if_ne (tgt := 21) dX7_vintage_15 (by decide) (fun c15 => ?_) (fun c15 => ?_)
      · refine V_aload_n dX7_vintage_21 rfl ?_
        refine V_getr (b := 40) 7 1 dX7_vintage_22 (Or.inl lkX7_30) rfl rfl ⟨by omega, by omega⟩ (hR _ _ _ rfl) ?_
        refine V_geti 6 2 dX7_vintage_25 lnX7_98 rfl rfl ⟨by omega, by omega⟩ ?_
        refine V_iconst (v := 5) dX7_vintage_28 rfl ?_
        refine V_icmp_lt (tgt := 35) dX7_vintage_29 (by decide) (fun c29 => ?_) (fun c29 => ?_)
        · rw [r3] at c29
          have hlt := lt_of5 hW c29
          refine V_aload_n dX7_vintage_35 rfl ?_
          refine V_getr (b := 40) 7 1 dX7_vintage_36 (Or.inl lkX7_30) rfl rfl ⟨by omega, by omega⟩ (hR _ _ _ rfl) ?_
          refine V_iload_n dX7_vintage_39 rfl ?_
          refine V_iload_n dX7_vintage_40 rfl ?_
          refine V_callV (ci := 6) (qX6_addVintage _ _ _ hR hn 40 (Or.inl rfl) (cW c) hcW hW5 hlt _ _) dX7_vintage_41 mlX7_101 mtX6_addVintage ivX6_addVintage rfl rfl ⟨by omega, by omega⟩ (by decide) rfl rfl (by decide) (Nat.le_of_ble_eq_true rfl) rfl rfl ?_
          rintro _ _ _ _ ⟨rfl, rfl, rfl, rfl⟩
          refine V_iret dX7_vintage_44 rfl rfl ?_
          refine ⟨?_, rfl, ?_, rfl⟩
          · rw [r3]
            unfold sVintage
            rw [if_pos ⟨⟨Int32.not_lt.mp c1, Int32.not_le.mp c8⟩, b01_n.mp c15⟩, if_pos c29]
          · unfold cVintage
            rw [if_pos ⟨⟨⟨Int32.not_lt.mp c1, Int32.not_le.mp c8⟩, b01_n.mp c15⟩, c29⟩, nat_of_toInt hW, r3]
            rfl
        · refine V_bipush (v := -4) dX7_vintage_32 rfl ?_
          refine V_iret dX7_vintage_34 rfl rfl ?_
          rw [r3] at c29
          clear hR
          (try simp only [b01_0, b01_n] at *)
          refine ⟨?_, rfl, ?_, rfl⟩
          all_goals (simp only [sVintage, cVintage, okVintage]; repeat' split)
          all_goals first | rfl | (exfalso; simp only [Int32.lt_iff_toInt_lt, Int32.le_iff_toInt_le, ← Int32.toInt_inj, Int32.reduceToInt] at *; omega)
      · refine V_bipush (v := -2) dX7_vintage_18 rfl ?_
        refine V_iret dX7_vintage_20 rfl rfl ?_
        clear hR
        (try simp only [b01_0, b01_n] at *)
        refine ⟨?_, rfl, ?_, rfl⟩
        all_goals (simp only [sVintage, cVintage, okVintage]; repeat' split)
        all_goals first | rfl | (exfalso; simp only [Int32.lt_iff_toInt_lt, Int32.le_iff_toInt_le, ← Int32.toInt_inj, Int32.reduceToInt] at *; omega)
set_option maxRecDepth 4000 in
theorem qX8_vintage (n : Nat) (mi : MI) (mr : MR) (c : CT) (hR : RF mr) (hn : 186 ≤ n) (hBD : BD (mi 174) c) (y b : Int32) : Ct KX8_vintage 3 0 0 [.ref 173, .int y, .int b] n mi mr (eqQ (some (.int (sVintage (mi 174) y b))) n (mVintage mi y b) mr) := by
  refine Ct.of2 [some (.ref 173), some (.int y), some (.int b)] (by decide +kernel) (Nat.le_of_ble_eq_true rfl) rfl ?_
  obtain ⟨⟨hN, hN6⟩, ⟨hW, hW5⟩, ⟨hL, hL5⟩, ⟨hT, hT100⟩, ⟨hS, hS5⟩, ⟨hP, hP8⟩, ⟨hBk, hB8⟩⟩ := hBD.1
  refine V_iload_n dX8_vintage_0 rfl ?_
  refine V_iconst (v := 0) dX8_vintage_1 rfl ?_
  refine V_sipush (v := 199) dX8_vintage_2 rfl ?_
  refine V_callS (qX8_in _ _ _ _ _ _) dX8_vintage_5 mlX8_53 mtX8_in smX8_in rfl rfl (by decide) (Nat.le_of_ble_eq_true rfl) rfl rfl ?_
  rintro _ _ _ _ ⟨rfl, rfl, rfl, rfl⟩
  refine V_if_eq (tgt := 21) dX8_vintage_8 (by decide) (fun c8 => ?_) (fun c8 => ?_)
  · refine V_bipush (v := -2) dX8_vintage_21 rfl ?_
    refine V_iret dX8_vintage_23 rfl rfl ?_
    clear hR
    (try simp only [b01_0, b01_n] at *)
    refine ⟨?_, rfl, ?_, rfl⟩
    all_goals (simp only [sVintage, mVintage, okVintage]; repeat' split)
    all_goals first | rfl | (exfalso; simp only [Int32.lt_iff_toInt_lt, Int32.le_iff_toInt_le, ← Int32.toInt_inj, Int32.reduceToInt] at *; omega)
  · refine V_iload_n dX8_vintage_11 rfl ?_
    refine V_iconst (v := 0) dX8_vintage_12 rfl ?_
    refine V_bipush (v := 99) dX8_vintage_13 rfl ?_
    refine V_callS (qX8_in _ _ _ _ _ _) dX8_vintage_15 mlX8_53 mtX8_in smX8_in rfl rfl (by decide) (Nat.le_of_ble_eq_true rfl) rfl rfl ?_
    rintro _ _ _ _ ⟨rfl, rfl, rfl, rfl⟩
    refine V_if_ne (tgt := 24) dX8_vintage_18 (by decide) (fun c18 => ?_) (fun c18 => ?_)
    · refine V_aload_n dX8_vintage_24 rfl ?_
      refine V_getr (b := 174) 8 1 dX8_vintage_25 (Or.inl lkX8_9) rfl rfl ⟨by omega, by omega⟩ (hR _ _ _ rfl) ?_
      refine V_bipush (v := 19) dX8_vintage_28 rfl ?_
      refine V_iald (len := 938) 19 dX8_vintage_30 rfl ⟨by omega, by omega⟩ (by decide) (by omega) ?_
      refine V_iconst (v := 5) dX8_vintage_31 rfl ?_
      refine V_icmp_ne (tgt := 40) dX8_vintage_32 (by decide) (fun c32 => ?_) (fun c32 => ?_)
      · have hlt : cW c < 5 := by
          have h7 := hW
          unfold nat at h7
          simp only [← Int32.toInt_inj, Int32.reduceToInt] at c32
          omega
        have c32b : mi 174 19 < 5 := by
          have h7 := hW
          unfold nat at h7
          simp only [Int32.lt_iff_toInt_lt, Int32.reduceToInt]
          omega
        refine V_aload_n dX8_vintage_40 rfl ?_
        refine V_iload_n dX8_vintage_41 rfl ?_
        refine V_iload_n dX8_vintage_42 rfl ?_
        refine V_callV (ci := 8) (qX8_newVintage _ _ _ hR hn (cW c) hW hW5 hlt _ _) dX8_vintage_43 mlX8_166 mtX8_newVintage ivX8_newVintage rfl rfl ⟨by omega, by omega⟩ (by decide) rfl rfl (by decide) (Nat.le_of_ble_eq_true rfl) rfl rfl ?_
        rintro _ _ _ _ ⟨rfl, rfl, rfl, rfl⟩
        refine V_iret dX8_vintage_46 rfl rfl ?_
        first
          | (obtain ⟨j1, j2⟩ := b01_n.mp c8
             have j3 : y < 200 := Int32.lt_iff_toInt_lt.mpr (by rw [Int32.le_iff_toInt_le] at j2; simp only [Int32.reduceToInt] at j2 ⊢; omega)
             refine ⟨?_, rfl, ?_, rfl⟩
             · unfold sVintage
               rw [if_pos ⟨⟨j1, j3⟩, b01_n.mp c18⟩, if_pos c32b]
             · unfold mVintage
               rw [if_pos ⟨⟨⟨j1, j3⟩, b01_n.mp c18⟩, c32b⟩, nat_of_toInt hW]
               rfl)
          | (clear hR
             (try simp only [b01_0, b01_n] at *)
             refine ⟨?_, rfl, ?_, rfl⟩
             all_goals (simp only [sVintage, mVintage, okVintage]; repeat' split)
             all_goals first | rfl | (exfalso; simp only [Int32.lt_iff_toInt_lt, Int32.le_iff_toInt_le, ← Int32.toInt_inj, Int32.reduceToInt] at *; omega))
      · refine V_bipush (v := -4) dX8_vintage_35 rfl ?_
        refine V_goto (tgt := 46) dX8_vintage_37 (by decide) ?_
        refine V_iret dX8_vintage_46 rfl rfl ?_
        first
          | (obtain ⟨j1, j2⟩ := b01_n.mp c8
             have j3 : y < 200 := Int32.lt_iff_toInt_lt.mpr (by rw [Int32.le_iff_toInt_le] at j2; simp only [Int32.reduceToInt] at j2 ⊢; omega)
             refine ⟨?_, rfl, ?_, rfl⟩
             · unfold sVintage
               rw [if_pos ⟨⟨j1, j3⟩, b01_n.mp c18⟩, if_pos c32b]
             · unfold mVintage
               rw [if_pos ⟨⟨⟨j1, j3⟩, b01_n.mp c18⟩, c32b⟩, nat_of_toInt hW]
               rfl)
          | (clear hR
             (try simp only [b01_0, b01_n] at *)
             refine ⟨?_, rfl, ?_, rfl⟩
             all_goals (simp only [sVintage, mVintage, okVintage]; repeat' split)
             all_goals first | rfl | (exfalso; simp only [Int32.lt_iff_toInt_lt, Int32.le_iff_toInt_le, ← Int32.toInt_inj, Int32.reduceToInt] at *; omega))
    · refine V_bipush (v := -2) dX8_vintage_21 rfl ?_
      refine V_iret dX8_vintage_23 rfl rfl ?_
      clear hR
      (try simp only [b01_0, b01_n] at *)
      refine ⟨?_, rfl, ?_, rfl⟩
      all_goals (simp only [sVintage, mVintage, okVintage]; repeat' split)
      all_goals first | rfl | (exfalso; simp only [Int32.lt_iff_toInt_lt, Int32.le_iff_toInt_le, ← Int32.toInt_inj, Int32.reduceToInt] at *; omega)
def sCount (S : Nat → Int32) (ran x : Int32) : Int32 := if x = 6 then ran else if x = 7 then S 19 else if 0 ≤ x ∧ x ≤ 5 then S (12 + x.toNatClampNeg) else -1
theorem INV.tr {n : Nat} {mi : MI} {mr : MR} {c : CT} (I : INV n mi mr c) : TR mi := I.2.2.2.2.2.2.2
theorem INV.cl {n : Nat} {mi : MI} {mr : MR} {c : CT} (I : INV n mi mr c) : mr 40 5 = some (hvOf (mi 174)) ∧ ∀ i, i < cL c → VR (mi 174) mi (vAt i) i := ⟨I.2.2.2.1.2.1, I.2.2.2.1.2.2.1⟩
set_option maxRecDepth 4000 in
theorem qX7_count (n : Nat) (mi : MI) (mr : MR) (c : CT) (I : INV n mi mr c) (x : Int32) : Ct KX7_count 1 0 0 [.ref 32, .int x] n mi mr (eqQ (some (.int (sCount (mi 174) (mi 173 25) x))) n (mi) mr) := by
  refine Ct.of2 [some (.ref 32), some (.int x)] (by decide +kernel) (Nat.le_of_ble_eq_true rfl) rfl ?_
  have htr := I.tr
  obtain ⟨hR, hn, ⟨⟨hN, hN6⟩, ⟨hW, hW5⟩, ⟨hL, hL5⟩, ⟨hT, hT100⟩, ⟨hS, hS5⟩, ⟨hP, hP8⟩, ⟨hBk, hB8⟩⟩, hrw⟩ := I.facts
  have hBD := I.2.2.1
  obtain ⟨⟨r1, r2, r3, r4, r5⟩, hper, hvin, htape, hseen, hnight, hbook⟩ := id hrw
  have hcN : nat (mi 40 1) (cN c) := by rw [r2]; exact hN
  have hcW : nat (mi 40 2) (cW c) := by rw [r3]; exact hW
  clear I
  refine V_iload_n dX7_count_0 rfl ?_
  by_cases k0 : x = 0
  · refine V_tableIn (off := 47) (tgt := 48) dX7_count_1 (by rw [k0]; decide) (by rw [k0]; decide) (by rw [k0]; rfl) (by decide) ?_
    refine V_aload_n dX7_count_48 rfl ?_
    refine V_getr (b := 40) 7 1 dX7_count_49 (Or.inl lkX7_30) rfl rfl ⟨by omega, by omega⟩ (hR _ _ _ rfl) ?_
    refine V_geti 6 1 dX7_count_52 lnX7_82 rfl rfl ⟨by omega, by omega⟩ ?_
    refine V_iret dX7_count_55 rfl rfl ?_
    first | subst k0 | subst k1 | subst k2 | subst k3 | subst k4 | subst k5 | subst k6 | subst k7
    refine ⟨?_, rfl, rfl, rfl⟩
    first
      | exact congrArg (fun z => some (Value.int z)) r2.symm
      | exact congrArg (fun z => some (Value.int z)) r3.symm
      | exact congrArg (fun z => some (Value.int z)) r4.symm
      | exact congrArg (fun z => some (Value.int z)) r5.symm
      | exact congrArg (fun z => some (Value.int z)) hseen.1.symm
      | exact congrArg (fun z => some (Value.int z)) hnight.1.symm
      | exact congrArg (fun z => some (Value.int z)) hbook.1.symm
      | exact congrArg (fun z => some (Value.int z)) htr.1.symm
  by_cases k1 : x = 1
  · refine V_tableIn (off := 55) (tgt := 56) dX7_count_1 (by rw [k1]; decide) (by rw [k1]; decide) (by rw [k1]; rfl) (by decide) ?_
    refine V_aload_n dX7_count_56 rfl ?_
    refine V_getr (b := 40) 7 1 dX7_count_57 (Or.inl lkX7_30) rfl rfl ⟨by omega, by omega⟩ (hR _ _ _ rfl) ?_
    refine V_geti 6 3 dX7_count_60 lnX7_57 rfl rfl ⟨by omega, by omega⟩ ?_
    refine V_iret dX7_count_63 rfl rfl ?_
    first | subst k0 | subst k1 | subst k2 | subst k3 | subst k4 | subst k5 | subst k6 | subst k7
    refine ⟨?_, rfl, rfl, rfl⟩
    first
      | exact congrArg (fun z => some (Value.int z)) r2.symm
      | exact congrArg (fun z => some (Value.int z)) r3.symm
      | exact congrArg (fun z => some (Value.int z)) r4.symm
      | exact congrArg (fun z => some (Value.int z)) r5.symm
      | exact congrArg (fun z => some (Value.int z)) hseen.1.symm
      | exact congrArg (fun z => some (Value.int z)) hnight.1.symm
      | exact congrArg (fun z => some (Value.int z)) hbook.1.symm
      | exact congrArg (fun z => some (Value.int z)) htr.1.symm
  by_cases k2 : x = 2
  · refine V_tableIn (off := 63) (tgt := 64) dX7_count_1 (by rw [k2]; decide) (by rw [k2]; decide) (by rw [k2]; rfl) (by decide) ?_
    refine V_aload_n dX7_count_64 rfl ?_
    refine V_getr (b := 40) 7 1 dX7_count_65 (Or.inl lkX7_30) rfl rfl ⟨by omega, by omega⟩ (hR _ _ _ rfl) ?_
    refine V_getr (b := 45) 6 10 dX7_count_68 lnX7_198 rfl rfl ⟨by omega, by omega⟩ (hR _ _ _ rfl) ?_
    refine V_geti 3 3 dX7_count_71 lnX7_241 rfl rfl ⟨by omega, by omega⟩ ?_
    refine V_iret dX7_count_74 rfl rfl ?_
    first | subst k0 | subst k1 | subst k2 | subst k3 | subst k4 | subst k5 | subst k6 | subst k7
    refine ⟨?_, rfl, rfl, rfl⟩
    first
      | exact congrArg (fun z => some (Value.int z)) r2.symm
      | exact congrArg (fun z => some (Value.int z)) r3.symm
      | exact congrArg (fun z => some (Value.int z)) r4.symm
      | exact congrArg (fun z => some (Value.int z)) r5.symm
      | exact congrArg (fun z => some (Value.int z)) hseen.1.symm
      | exact congrArg (fun z => some (Value.int z)) hnight.1.symm
      | exact congrArg (fun z => some (Value.int z)) hbook.1.symm
      | exact congrArg (fun z => some (Value.int z)) htr.1.symm
  by_cases k3 : x = 3
  · refine V_tableIn (off := 74) (tgt := 75) dX7_count_1 (by rw [k3]; decide) (by rw [k3]; decide) (by rw [k3]; rfl) (by decide) ?_
    refine V_aload_n dX7_count_75 rfl ?_
    refine V_getr (b := 40) 7 1 dX7_count_76 (Or.inl lkX7_30) rfl rfl ⟨by omega, by omega⟩ (hR _ _ _ rfl) ?_
    refine V_getr (b := 49) 6 11 dX7_count_79 lnX7_216 rfl rfl ⟨by omega, by omega⟩ (hR _ _ _ rfl) ?_
    refine V_geti 3 3 dX7_count_82 lnX7_241 rfl rfl ⟨by omega, by omega⟩ ?_
    refine V_iret dX7_count_85 rfl rfl ?_
    first | subst k0 | subst k1 | subst k2 | subst k3 | subst k4 | subst k5 | subst k6 | subst k7
    refine ⟨?_, rfl, rfl, rfl⟩
    first
      | exact congrArg (fun z => some (Value.int z)) r2.symm
      | exact congrArg (fun z => some (Value.int z)) r3.symm
      | exact congrArg (fun z => some (Value.int z)) r4.symm
      | exact congrArg (fun z => some (Value.int z)) r5.symm
      | exact congrArg (fun z => some (Value.int z)) hseen.1.symm
      | exact congrArg (fun z => some (Value.int z)) hnight.1.symm
      | exact congrArg (fun z => some (Value.int z)) hbook.1.symm
      | exact congrArg (fun z => some (Value.int z)) htr.1.symm
  by_cases k4 : x = 4
  · refine V_tableIn (off := 85) (tgt := 86) dX7_count_1 (by rw [k4]; decide) (by rw [k4]; decide) (by rw [k4]; rfl) (by decide) ?_
    refine V_aload_n dX7_count_86 rfl ?_
    refine V_getr (b := 40) 7 1 dX7_count_87 (Or.inl lkX7_30) rfl rfl ⟨by omega, by omega⟩ (hR _ _ _ rfl) ?_
    refine V_getr (b := 53) 6 12 dX7_count_90 lnX7_238 rfl rfl ⟨by omega, by omega⟩ (hR _ _ _ rfl) ?_
    refine V_geti 3 3 dX7_count_93 lnX7_241 rfl rfl ⟨by omega, by omega⟩ ?_
    refine V_iret dX7_count_96 rfl rfl ?_
    first | subst k0 | subst k1 | subst k2 | subst k3 | subst k4 | subst k5 | subst k6 | subst k7
    refine ⟨?_, rfl, rfl, rfl⟩
    first
      | exact congrArg (fun z => some (Value.int z)) r2.symm
      | exact congrArg (fun z => some (Value.int z)) r3.symm
      | exact congrArg (fun z => some (Value.int z)) r4.symm
      | exact congrArg (fun z => some (Value.int z)) r5.symm
      | exact congrArg (fun z => some (Value.int z)) hseen.1.symm
      | exact congrArg (fun z => some (Value.int z)) hnight.1.symm
      | exact congrArg (fun z => some (Value.int z)) hbook.1.symm
      | exact congrArg (fun z => some (Value.int z)) htr.1.symm
  by_cases k5 : x = 5
  · refine V_tableIn (off := 96) (tgt := 97) dX7_count_1 (by rw [k5]; decide) (by rw [k5]; decide) (by rw [k5]; rfl) (by decide) ?_
    refine V_aload_n dX7_count_97 rfl ?_
    refine V_getr (b := 40) 7 1 dX7_count_98 (Or.inl lkX7_30) rfl rfl ⟨by omega, by omega⟩ (hR _ _ _ rfl) ?_
    refine V_geti 6 4 dX7_count_101 lnX7_49 rfl rfl ⟨by omega, by omega⟩ ?_
    refine V_iret dX7_count_104 rfl rfl ?_
    first | subst k0 | subst k1 | subst k2 | subst k3 | subst k4 | subst k5 | subst k6 | subst k7
    refine ⟨?_, rfl, rfl, rfl⟩
    first
      | exact congrArg (fun z => some (Value.int z)) r2.symm
      | exact congrArg (fun z => some (Value.int z)) r3.symm
      | exact congrArg (fun z => some (Value.int z)) r4.symm
      | exact congrArg (fun z => some (Value.int z)) r5.symm
      | exact congrArg (fun z => some (Value.int z)) hseen.1.symm
      | exact congrArg (fun z => some (Value.int z)) hnight.1.symm
      | exact congrArg (fun z => some (Value.int z)) hbook.1.symm
      | exact congrArg (fun z => some (Value.int z)) htr.1.symm
  by_cases k6 : x = 6
  · refine V_tableIn (off := 104) (tgt := 105) dX7_count_1 (by rw [k6]; decide) (by rw [k6]; decide) (by rw [k6]; rfl) (by decide) ?_
    refine V_aload_n dX7_count_105 rfl ?_
    refine V_getr (b := 34) 7 5 dX7_count_106 (Or.inl lkX7_20) rfl rfl ⟨by omega, by omega⟩ (hR _ _ _ rfl) ?_
    refine V_geti 0 1 dX7_count_109 lnX7_250 rfl rfl ⟨by omega, by omega⟩ ?_
    refine V_iret dX7_count_112 rfl rfl ?_
    first | subst k0 | subst k1 | subst k2 | subst k3 | subst k4 | subst k5 | subst k6 | subst k7
    refine ⟨?_, rfl, rfl, rfl⟩
    first
      | exact congrArg (fun z => some (Value.int z)) r2.symm
      | exact congrArg (fun z => some (Value.int z)) r3.symm
      | exact congrArg (fun z => some (Value.int z)) r4.symm
      | exact congrArg (fun z => some (Value.int z)) r5.symm
      | exact congrArg (fun z => some (Value.int z)) hseen.1.symm
      | exact congrArg (fun z => some (Value.int z)) hnight.1.symm
      | exact congrArg (fun z => some (Value.int z)) hbook.1.symm
      | exact congrArg (fun z => some (Value.int z)) htr.1.symm
  by_cases k7 : x = 7
  · refine V_tableIn (off := 112) (tgt := 113) dX7_count_1 (by rw [k7]; decide) (by rw [k7]; decide) (by rw [k7]; rfl) (by decide) ?_
    refine V_aload_n dX7_count_113 rfl ?_
    refine V_getr (b := 40) 7 1 dX7_count_114 (Or.inl lkX7_30) rfl rfl ⟨by omega, by omega⟩ (hR _ _ _ rfl) ?_
    refine V_geti 6 2 dX7_count_117 lnX7_98 rfl rfl ⟨by omega, by omega⟩ ?_
    refine V_iret dX7_count_120 rfl rfl ?_
    first | subst k0 | subst k1 | subst k2 | subst k3 | subst k4 | subst k5 | subst k6 | subst k7
    refine ⟨?_, rfl, rfl, rfl⟩
    first
      | exact congrArg (fun z => some (Value.int z)) r2.symm
      | exact congrArg (fun z => some (Value.int z)) r3.symm
      | exact congrArg (fun z => some (Value.int z)) r4.symm
      | exact congrArg (fun z => some (Value.int z)) r5.symm
      | exact congrArg (fun z => some (Value.int z)) hseen.1.symm
      | exact congrArg (fun z => some (Value.int z)) hnight.1.symm
      | exact congrArg (fun z => some (Value.int z)) hbook.1.symm
      | exact congrArg (fun z => some (Value.int z)) htr.1.symm
  refine V_tableOut (tgt := 121) dX7_count_1 (by simp only [← Int32.toInt_inj, Int32.reduceToInt] at *; omega) (by decide) ?_
  refine V_iconst (v := -1) dX7_count_121 rfl ?_
  refine V_iret dX7_count_122 rfl rfl ?_
  simp only [sCount]
  rw [if_neg k6, if_neg k7, if_neg (fun h => by simp only [Int32.le_iff_toInt_le, ← Int32.toInt_inj, Int32.reduceToInt] at *; omega)]
  exact ⟨rfl, rfl, rfl, rfl⟩
set_option maxRecDepth 4000 in
theorem qX8_count (n : Nat) (mi : MI) (mr : MR) (c : CT) (hR : RF mr) (hn : 186 ≤ n) (hBD : BD (mi 174) c) (x : Int32) : Ct KX8_count 3 0 0 [.ref 173, .int x] n mi mr (eqQ (some (.int (sCount (mi 174) (mi 173 25) x))) n (mi) mr) := by
  refine Ct.of2 [some (.ref 173), some (.int x)] (by decide +kernel) (Nat.le_of_ble_eq_true rfl) rfl ?_
  obtain ⟨⟨hN, hN6⟩, ⟨hW, hW5⟩, ⟨hL, hL5⟩, ⟨hT, hT100⟩, ⟨hS, hS5⟩, ⟨hP, hP8⟩, ⟨hBk, hB8⟩⟩ := hBD.1
  refine V_iload_n dX8_count_0 rfl ?_
  refine V_bipush (v := 6) dX8_count_1 rfl ?_
  refine V_icmp_ne (tgt := 13) dX8_count_3 (by decide) (fun c3 => ?_) (fun c3 => ?_)
  · refine V_iload_n dX8_count_13 rfl ?_
    refine V_bipush (v := 7) dX8_count_14 rfl ?_
    refine V_icmp_ne (tgt := 29) dX8_count_16 (by decide) (fun c16 => ?_) (fun c16 => ?_)
    · refine V_iload_n dX8_count_29 rfl ?_
      refine V_iconst (v := 0) dX8_count_30 rfl ?_
      refine V_iconst (v := 5) dX8_count_31 rfl ?_
      refine V_callS (qX8_in _ _ _ _ _ _) dX8_count_32 mlX8_53 mtX8_in smX8_in rfl rfl (by decide) (Nat.le_of_ble_eq_true rfl) rfl rfl ?_
      rintro _ _ _ _ ⟨rfl, rfl, rfl, rfl⟩
      refine V_if_eq (tgt := 50) dX8_count_35 (by decide) (fun c35 => ?_) (fun c35 => ?_)
      · refine V_iconst (v := -1) dX8_count_50 rfl ?_
        refine V_iret dX8_count_51 rfl rfl ?_
        refine ⟨?_, rfl, rfl, rfl⟩
        first
          | (rw [b01_n] at c35; simp only [sCount]; rw [if_neg c3, if_neg c16, if_pos c35, nat_of_toInt hk1])
          | (rw [b01_0] at c35; simp only [sCount]; rw [if_neg c3, if_neg c16, if_neg c35])
          | (simp only [sCount]; rw [if_neg c3, if_pos c16])
          | (simp only [sCount]; rw [if_pos c3])
      · obtain ⟨k, hk1, hk2⟩ : ∃ k : Nat, x.toInt = (k : Int) ∧ k < 6 := by
          have h2 := b01_n.mp c35
          simp only [Int32.le_iff_toInt_le, Int32.reduceToInt] at h2
          exact ⟨x.toInt.toNat, by omega, by omega⟩
        refine V_aload_n dX8_count_38 rfl ?_
        refine V_getr (b := 174) 8 1 dX8_count_39 (Or.inl lkX8_9) rfl rfl ⟨by omega, by omega⟩ (hR _ _ _ rfl) ?_
        refine V_bipush (v := 12) dX8_count_42 rfl ?_
        refine V_iload_n dX8_count_44 rfl ?_
        refine V_iadd dX8_count_45 ?_
        refine V_iald (len := 938) (12 + k) dX8_count_46 rfl ⟨by omega, by omega⟩ (ix_add (by decide) hk1 (by omega)) (by omega) ?_
        refine V_goto (tgt := 51) dX8_count_47 (by decide) ?_
        refine V_iret dX8_count_51 rfl rfl ?_
        refine ⟨?_, rfl, rfl, rfl⟩
        first
          | (rw [b01_n] at c35; simp only [sCount]; rw [if_neg c3, if_neg c16, if_pos c35, nat_of_toInt hk1])
          | (rw [b01_0] at c35; simp only [sCount]; rw [if_neg c3, if_neg c16, if_neg c35])
          | (simp only [sCount]; rw [if_neg c3, if_pos c16])
          | (simp only [sCount]; rw [if_pos c3])
    · refine V_aload_n dX8_count_19 rfl ?_
      refine V_getr (b := 174) 8 1 dX8_count_20 (Or.inl lkX8_9) rfl rfl ⟨by omega, by omega⟩ (hR _ _ _ rfl) ?_
      refine V_bipush (v := 19) dX8_count_23 rfl ?_
      refine V_iald (len := 938) 19 dX8_count_25 rfl ⟨by omega, by omega⟩ (by decide) (by omega) ?_
      refine V_goto (tgt := 51) dX8_count_26 (by decide) ?_
      refine V_iret dX8_count_51 rfl rfl ?_
      refine ⟨?_, rfl, rfl, rfl⟩
      first
        | (rw [b01_n] at c35; simp only [sCount]; rw [if_neg c3, if_neg c16, if_pos c35, nat_of_toInt hk1])
        | (rw [b01_0] at c35; simp only [sCount]; rw [if_neg c3, if_neg c16, if_neg c35])
        | (simp only [sCount]; rw [if_neg c3, if_pos c16])
        | (simp only [sCount]; rw [if_pos c3])
  · refine V_aload_n dX8_count_6 rfl ?_
    refine V_geti 8 25 dX8_count_7 (Or.inl lkX8_271) rfl rfl ⟨by omega, by omega⟩ ?_
    refine V_goto (tgt := 51) dX8_count_10 (by decide) ?_
    refine V_iret dX8_count_51 rfl rfl ?_
    refine ⟨?_, rfl, rfl, rfl⟩
    first
      | (rw [b01_n] at c35; simp only [sCount]; rw [if_neg c3, if_neg c16, if_pos c35, nat_of_toInt hk1])
      | (rw [b01_0] at c35; simp only [sCount]; rw [if_neg c3, if_neg c16, if_neg c35])
      | (simp only [sCount]; rw [if_neg c3, if_pos c16])
      | (simp only [sCount]; rw [if_pos c3])
def sTrace (mi : MI) (x : Int32) : Int32 := if 0 ≤ x ∧ x < mi 173 25 ∧ x < 20 then mi 185 x.toNatClampNeg else -1
theorem idx20 {x : Int32} (h1 : 0 ≤ x) (h2 : x < 20) : ∃ k : Nat, x.toInt = (k : Int) ∧ k < 20 := by
  simp only [Int32.le_iff_toInt_le, Int32.lt_iff_toInt_lt, Int32.reduceToInt] at h1 h2
  exact ⟨x.toInt.toNat, by omega, by omega⟩
set_option maxRecDepth 4000 in
theorem qX7_trace (n : Nat) (mi : MI) (mr : MR) (c : CT) (I : INV n mi mr c) (x : Int32) : Ct KX7_trace 1 0 0 [.ref 32, .int x] n mi mr (eqQ (some (.int (sTrace mi x))) n (mi) mr) := by
  refine Ct.of2 [some (.ref 32), some (.int x)] (by decide +kernel) (Nat.le_of_ble_eq_true rfl) rfl ?_
  have htr := I.tr
  obtain ⟨hR, hn, ⟨⟨hN, hN6⟩, ⟨hW, hW5⟩, ⟨hL, hL5⟩, ⟨hT, hT100⟩, ⟨hS, hS5⟩, ⟨hP, hP8⟩, ⟨hBk, hB8⟩⟩, hrw⟩ := I.facts
  have hBD := I.2.2.1
  obtain ⟨⟨r1, r2, r3, r4, r5⟩, hper, hvin, htape, hseen, hnight, hbook⟩ := id hrw
  have hcN : nat (mi 40 1) (cN c) := by rw [r2]; exact hN
  have hcW : nat (mi 40 2) (cW c) := by rw [r3]; exact hW
  clear I
  refine V_iload_n dX7_trace_0 rfl ?_
  refine V_if_lt (tgt := 33) dX7_trace_1 (by decide) (fun c1 => ?_) (fun c1 => ?_)
  · refine V_iconst (v := -1) dX7_trace_33 rfl ?_
    refine V_iret dX7_trace_34 rfl rfl ?_
    obtain ⟨t1, K, t2, t3, t4⟩ := htr
    refine ⟨?_, rfl, rfl, rfl⟩
    unfold sTrace
    rw [← t1]
    first
      | (rw [if_pos ⟨Int32.not_lt.mp c1, Int32.not_le.mp c12, Int32.not_le.mp c18⟩, nat_of_toInt hk1, t4 k (by
           have c12' := c12
           simp only [Int32.le_iff_toInt_le] at c12'
           omega) hk2])
      | (rw [if_neg (fun h => c18' h.2.2)]; done)
      | (rw [if_neg (fun h => by obtain ⟨h1, h2, h3⟩ := h; simp only [Int32.lt_iff_toInt_lt, Int32.le_iff_toInt_le, Int32.reduceToInt] at *; omega)])
  · refine V_iload_n dX7_trace_4 rfl ?_
    refine V_aload_n dX7_trace_5 rfl ?_
    refine V_getr (b := 34) 7 5 dX7_trace_6 (Or.inl lkX7_20) rfl rfl ⟨by omega, by omega⟩ (hR _ _ _ rfl) ?_
    refine V_geti 0 1 dX7_trace_9 lnX7_250 rfl rfl ⟨by omega, by omega⟩ ?_
    refine V_icmp_ge (tgt := 33) dX7_trace_12 (by decide) (fun c12 => ?_) (fun c12 => ?_)
    · refine V_iconst (v := -1) dX7_trace_33 rfl ?_
      refine V_iret dX7_trace_34 rfl rfl ?_
      obtain ⟨t1, K, t2, t3, t4⟩ := htr
      refine ⟨?_, rfl, rfl, rfl⟩
      unfold sTrace
      rw [← t1]
      first
        | (rw [if_pos ⟨Int32.not_lt.mp c1, Int32.not_le.mp c12, Int32.not_le.mp c18⟩, nat_of_toInt hk1, t4 k (by
             have c12' := c12
             simp only [Int32.le_iff_toInt_le] at c12'
             omega) hk2])
        | (rw [if_neg (fun h => c18' h.2.2)]; done)
        | (rw [if_neg (fun h => by obtain ⟨h1, h2, h3⟩ := h; simp only [Int32.lt_iff_toInt_lt, Int32.le_iff_toInt_le, Int32.reduceToInt] at *; omega)])
    · refine V_iload_n dX7_trace_15 rfl ?_
      refine V_bipush (v := 20) dX7_trace_16 rfl ?_
      refine V_icmp_ge (tgt := 33) dX7_trace_18 (by decide) (fun c18 => ?_) (fun c18 => ?_)
      · refine V_iconst (v := -1) dX7_trace_33 rfl ?_
        refine V_iret dX7_trace_34 rfl rfl ?_
        obtain ⟨t1, K, t2, t3, t4⟩ := htr
        refine ⟨?_, rfl, rfl, rfl⟩
        unfold sTrace
        rw [← t1]
        first
          | (rw [if_pos ⟨Int32.not_lt.mp c1, Int32.not_le.mp c12, Int32.not_le.mp c18⟩, nat_of_toInt hk1, t4 k (by
               have c12' := c12
               simp only [Int32.le_iff_toInt_le] at c12'
               omega) hk2])
          | (rw [if_neg (fun h => c18' h.2.2)]; done)
          | (rw [if_neg (fun h => by obtain ⟨h1, h2, h3⟩ := h; simp only [Int32.lt_iff_toInt_lt, Int32.le_iff_toInt_le, Int32.reduceToInt] at *; omega)])
      · obtain ⟨k, hk1, hk2⟩ := idx20 (Int32.not_lt.mp c1) (Int32.not_le.mp c18)
        refine V_aload_n dX7_trace_21 rfl ?_
        refine V_getr (b := 34) 7 5 dX7_trace_22 (Or.inl lkX7_20) rfl rfl ⟨by omega, by omega⟩ (hR _ _ _ rfl) ?_
        refine V_getr (b := 35) 0 0 dX7_trace_25 lnX7_257 rfl rfl ⟨by omega, by omega⟩ (hR _ _ _ rfl) ?_
        refine V_iload_n dX7_trace_28 rfl ?_
        refine V_iald (len := 20) k dX7_trace_29 rfl ⟨by omega, by omega⟩ hk1 (by omega) ?_
        refine V_goto (tgt := 34) dX7_trace_30 (by decide) ?_
        refine V_iret dX7_trace_34 rfl rfl ?_
        obtain ⟨t1, K, t2, t3, t4⟩ := htr
        refine ⟨?_, rfl, rfl, rfl⟩
        unfold sTrace
        rw [← t1]
        first
          | (rw [if_pos ⟨Int32.not_lt.mp c1, Int32.not_le.mp c12, Int32.not_le.mp c18⟩, nat_of_toInt hk1, t4 k (by
               have c12' := c12
               simp only [Int32.le_iff_toInt_le] at c12'
               omega) hk2])
          | (rw [if_neg (fun h => c18' h.2.2)]; done)
          | (rw [if_neg (fun h => by obtain ⟨h1, h2, h3⟩ := h; simp only [Int32.lt_iff_toInt_lt, Int32.le_iff_toInt_le, Int32.reduceToInt] at *; omega)])
set_option maxRecDepth 4000 in
theorem qX8_trace (n : Nat) (mi : MI) (mr : MR) (c : CT) (hR : RF mr) (hn : 186 ≤ n) (hBD : BD (mi 174) c) (K : Nat) (hK : nat (mi 173 25) K) (hK1 : K < 1000) (x : Int32) : Ct KX8_trace 3 0 0 [.ref 173, .int x] n mi mr (eqQ (some (.int (sTrace mi x))) n (mi) mr) := by
  refine Ct.of2 [some (.ref 173), some (.int x)] (by decide +kernel) (Nat.le_of_ble_eq_true rfl) rfl ?_
  obtain ⟨⟨hN, hN6⟩, ⟨hW, hW5⟩, ⟨hL, hL5⟩, ⟨hT, hT100⟩, ⟨hS, hS5⟩, ⟨hP, hP8⟩, ⟨hBk, hB8⟩⟩ := hBD.1
  refine V_iload_n dX8_trace_0 rfl ?_
  refine V_iconst (v := 0) dX8_trace_1 rfl ?_
  refine V_aload_n dX8_trace_2 rfl ?_
  refine V_geti 8 25 dX8_trace_3 (Or.inl lkX8_271) rfl rfl ⟨by omega, by omega⟩ ?_
  refine V_bipush (v := 20) dX8_trace_6 rfl ?_
  refine V_icmp_ge (tgt := 18) dX8_trace_8 (by decide) (fun c8 => ?_) (fun c8 => ?_)
  · refine V_bipush (v := 20) dX8_trace_18 rfl ?_
    refine V_iconst (v := 1) dX8_trace_20 rfl ?_
    refine V_isub dX8_trace_21 ?_
    refine V_callS (qX8_in _ _ _ _ _ _) dX8_trace_22 mlX8_53 mtX8_in smX8_in rfl rfl (by decide) (Nat.le_of_ble_eq_true rfl) rfl rfl ?_
    rintro _ _ _ _ ⟨rfl, rfl, rfl, rfl⟩
    refine V_if_eq (tgt := 37) dX8_trace_25 (by decide) (fun c25 => ?_) (fun c25 => ?_)
    · refine V_iconst (v := -1) dX8_trace_37 rfl ?_
      refine V_iret dX8_trace_38 rfl rfl ?_
      refine ⟨?_, rfl, rfl, rfl⟩
      have e19 : ((20 : Int32) - 1).toInt = 19 := by decide
      have eK := subOne hK (by omega)
      unfold sTrace
      first | rw [b01_n] at c25 | rw [b01_0] at c25
      first
        | (rw [if_pos (by refine ⟨c25.1, ?_, ?_⟩ <;> (obtain ⟨h1, h2⟩ := c25; unfold nat at hK; simp only [Int32.lt_iff_toInt_lt, Int32.le_iff_toInt_le, eK, e19, Int32.reduceToInt] at *; omega)), nat_of_toInt hk1])
        | (rw [if_neg (fun h => c25 (by obtain ⟨h1, h2, h3⟩ := h; refine ⟨h1, ?_⟩; unfold nat at hK; simp only [Int32.lt_iff_toInt_lt, Int32.le_iff_toInt_le, eK, e19, Int32.reduceToInt] at *; omega))])
    · obtain ⟨k, hk1, hk2⟩ : ∃ k : Nat, x.toInt = (k : Int) ∧ k < 20 := by
        have h2 := (b01_n.mp c25)
        unfold nat at hK
        first
          | (rw [Int32.le_iff_toInt_le, Int32.le_iff_toInt_le, subOne hK (by omega)] at h2
             simp only [Int32.lt_iff_toInt_lt, Int32.le_iff_toInt_le, Int32.reduceToInt] at h2 c8
             exact ⟨x.toInt.toNat, by omega, by omega⟩)
          | (have e19 : ((20 : Int32) - 1).toInt = 19 := by decide
             rw [Int32.le_iff_toInt_le, Int32.le_iff_toInt_le, e19] at h2
             simp only [Int32.reduceToInt] at h2
             exact ⟨x.toInt.toNat, by omega, by omega⟩)
      refine V_aload_n dX8_trace_28 rfl ?_
      refine V_getr (b := 185) 8 24 dX8_trace_29 (Or.inl lkX8_46) rfl rfl ⟨by omega, by omega⟩ (hR _ _ _ rfl) ?_
      refine V_iload_n dX8_trace_32 rfl ?_
      refine V_iald (len := 20) k dX8_trace_33 rfl ⟨by omega, by omega⟩ hk1 (by omega) ?_
      refine V_goto (tgt := 38) dX8_trace_34 (by decide) ?_
      refine V_iret dX8_trace_38 rfl rfl ?_
      refine ⟨?_, rfl, rfl, rfl⟩
      have e19 : ((20 : Int32) - 1).toInt = 19 := by decide
      have eK := subOne hK (by omega)
      unfold sTrace
      first | rw [b01_n] at c25 | rw [b01_0] at c25
      first
        | (rw [if_pos (by refine ⟨c25.1, ?_, ?_⟩ <;> (obtain ⟨h1, h2⟩ := c25; unfold nat at hK; simp only [Int32.lt_iff_toInt_lt, Int32.le_iff_toInt_le, eK, e19, Int32.reduceToInt] at *; omega)), nat_of_toInt hk1])
        | (rw [if_neg (fun h => c25 (by obtain ⟨h1, h2, h3⟩ := h; refine ⟨h1, ?_⟩; unfold nat at hK; simp only [Int32.lt_iff_toInt_lt, Int32.le_iff_toInt_le, eK, e19, Int32.reduceToInt] at *; omega))])
  · refine V_aload_n dX8_trace_11 rfl ?_
    refine V_geti 8 25 dX8_trace_12 (Or.inl lkX8_271) rfl rfl ⟨by omega, by omega⟩ ?_
    refine V_goto (tgt := 20) dX8_trace_15 (by decide) ?_
    refine V_iconst (v := 1) dX8_trace_20 rfl ?_
    refine V_isub dX8_trace_21 ?_
    refine V_callS (qX8_in _ _ _ _ _ _) dX8_trace_22 mlX8_53 mtX8_in smX8_in rfl rfl (by decide) (Nat.le_of_ble_eq_true rfl) rfl rfl ?_
    rintro _ _ _ _ ⟨rfl, rfl, rfl, rfl⟩
    refine V_if_eq (tgt := 37) dX8_trace_25 (by decide) (fun c25 => ?_) (fun c25 => ?_)
    · refine V_iconst (v := -1) dX8_trace_37 rfl ?_
      refine V_iret dX8_trace_38 rfl rfl ?_
      refine ⟨?_, rfl, rfl, rfl⟩
      have e19 : ((20 : Int32) - 1).toInt = 19 := by decide
      have eK := subOne hK (by omega)
      unfold sTrace
      first | rw [b01_n] at c25 | rw [b01_0] at c25
      first
        | (rw [if_pos (by refine ⟨c25.1, ?_, ?_⟩ <;> (obtain ⟨h1, h2⟩ := c25; unfold nat at hK; simp only [Int32.lt_iff_toInt_lt, Int32.le_iff_toInt_le, eK, e19, Int32.reduceToInt] at *; omega)), nat_of_toInt hk1])
        | (rw [if_neg (fun h => c25 (by obtain ⟨h1, h2, h3⟩ := h; refine ⟨h1, ?_⟩; unfold nat at hK; simp only [Int32.lt_iff_toInt_lt, Int32.le_iff_toInt_le, eK, e19, Int32.reduceToInt] at *; omega))])
    · obtain ⟨k, hk1, hk2⟩ : ∃ k : Nat, x.toInt = (k : Int) ∧ k < 20 := by
        have h2 := (b01_n.mp c25)
        unfold nat at hK
        first
          | (rw [Int32.le_iff_toInt_le, Int32.le_iff_toInt_le, subOne hK (by omega)] at h2
             simp only [Int32.lt_iff_toInt_lt, Int32.le_iff_toInt_le, Int32.reduceToInt] at h2 c8
             exact ⟨x.toInt.toNat, by omega, by omega⟩)
          | (have e19 : ((20 : Int32) - 1).toInt = 19 := by decide
             rw [Int32.le_iff_toInt_le, Int32.le_iff_toInt_le, e19] at h2
             simp only [Int32.reduceToInt] at h2
             exact ⟨x.toInt.toNat, by omega, by omega⟩)
      refine V_aload_n dX8_trace_28 rfl ?_
      refine V_getr (b := 185) 8 24 dX8_trace_29 (Or.inl lkX8_46) rfl rfl ⟨by omega, by omega⟩ (hR _ _ _ rfl) ?_
      refine V_iload_n dX8_trace_32 rfl ?_
      refine V_iald (len := 20) k dX8_trace_33 rfl ⟨by omega, by omega⟩ hk1 (by omega) ?_
      refine V_goto (tgt := 38) dX8_trace_34 (by decide) ?_
      refine V_iret dX8_trace_38 rfl rfl ?_
      refine ⟨?_, rfl, rfl, rfl⟩
      have e19 : ((20 : Int32) - 1).toInt = 19 := by decide
      have eK := subOne hK (by omega)
      unfold sTrace
      first | rw [b01_n] at c25 | rw [b01_0] at c25
      first
        | (rw [if_pos (by refine ⟨c25.1, ?_, ?_⟩ <;> (obtain ⟨h1, h2⟩ := c25; unfold nat at hK; simp only [Int32.lt_iff_toInt_lt, Int32.le_iff_toInt_le, eK, e19, Int32.reduceToInt] at *; omega)), nat_of_toInt hk1])
        | (rw [if_neg (fun h => c25 (by obtain ⟨h1, h2, h3⟩ := h; refine ⟨h1, ?_⟩; unfold nat at hK; simp only [Int32.lt_iff_toInt_lt, Int32.le_iff_toInt_le, eK, e19, Int32.reduceToInt] at *; omega))])
def sTell (S : Nat → Int32) (pl : Nat) (len p age : Int32) : Int32 := if p = -1 then 0 else if 0 ≤ p ∧ p < S 12 then (if -200 ≤ age ∧ age ≤ 400 then (if S pl < len then S pl + 1 else -4) else -2) else -1
abbrev okTell (S : Nat → Int32) (pl : Nat) (len p age : Int32) : Prop := (0 ≤ p ∧ p < S 12) ∧ (-200 ≤ age ∧ age ≤ 400) ∧ S pl < len
def cTell (mi : MI) (a pl : Nat) (len p age : Int32) : MI := if p = -1 then up2 mi a 3 0 else if okTell (mi 174) pl len p age then up2 (up2 (up2 (up2 mi (a + 1) (mi 174 pl).toNatClampNeg 0) (a + 2) (mi 174 pl).toNatClampNeg p) (a + 3) (mi 174 pl).toNatClampNeg age) a 3 (mi 174 pl + 1) else mi
def mTell (mi : MI) (p1 p2 pl : Nat) (len p age : Int32) : MI := if p = -1 then up2 mi 174 pl 0 else if okTell (mi 174) pl len p age then up2 (up2 (up2 mi 174 (p1 + (mi 174 pl).toNatClampNeg) p) 174 (p2 + (mi 174 pl).toNatClampNeg) age) 174 pl (mi 174 pl + 1) else mi
theorem lt_nI {x : Int32} {N len : Nat} (h : nat x N) (hl : len < 1000) : x < nI len ↔ N < len := by
  unfold nat at h
  rw [Int32.lt_iff_toInt_lt, h, nI_toInt (by omega)]
  omega
set_option maxRecDepth 4000 in
theorem qX7_tellAge (n : Nat) (mi : MI) (mr : MR) (c : CT) (I : INV n mi mr c) (a len pl s : Nat) (hr : isR a len) (hl8 : len ≤ 8) (hs : (mi a 3).toInt = (s : Int)) (hsl : s ≤ len) (hpl : mi a 3 = mi 174 pl) (p age : Int32) : Ct KX7_tellAge 3 0 0 [.ref 32, .ref a, .int p, .int age] n mi mr (eqQ (some (.int (sTell (mi 174) pl (nI len) p age))) n (cTell mi a pl (nI len) p age) mr) := by
  refine Ct.of2 [some (.ref 32), some (.ref a), some (.int p), some (.int age)] (by decide +kernel) (Nat.le_of_ble_eq_true rfl) rfl ?_
  have hrl := hr.le
  obtain ⟨hR, hn, ⟨⟨hN, hN6⟩, ⟨hW, hW5⟩, ⟨hL, hL5⟩, ⟨hT, hT100⟩, ⟨hS, hS5⟩, ⟨hP, hP8⟩, ⟨hBk, hB8⟩⟩, hrw⟩ := I.facts
  have hBD := I.2.2.1
  obtain ⟨⟨r1, r2, r3, r4, r5⟩, hper, hvin, htape, hseen, hnight, hbook⟩ := id hrw
  have hcN : nat (mi 40 1) (cN c) := by rw [r2]; exact hN
  have hcW : nat (mi 40 2) (cW c) := by rw [r3]; exact hW
  clear I
  refine V_iload_n dX7_tellAge_0 rfl ?_
  refine V_iconst (v := -1) dX7_tellAge_1 rfl ?_
  refine V_icmp_ne (tgt := 10) dX7_tellAge_2 (by decide) (fun c2 => ?_) (fun c2 => ?_)
  · refine V_aload_n dX7_tellAge_10 rfl ?_
    refine V_iload_n dX7_tellAge_11 rfl ?_
    refine V_callV (ci := 7) (qX7_isOne _ _ _ hR hn _) dX7_tellAge_12 mlX7_105 mtX7_isOne ivX7_isOne rfl rfl ⟨by omega, by omega⟩ (by decide) rfl rfl (by decide) (Nat.le_of_ble_eq_true rfl) rfl rfl ?_
    rintro _ _ _ _ ⟨rfl, rfl, rfl, rfl⟩
    refine V_if_ne (tgt := 20) dX7_tellAge_15 (by decide) (fun c15 => ?_) (fun c15 => ?_)
    · refine V_iload_n dX7_tellAge_20 rfl ?_
      refine V_sipush (v := -200) dX7_tellAge_21 rfl ?_
      refine V_icmp_lt (tgt := 34) dX7_tellAge_24 (by decide) (fun c24 => ?_) (fun c24 => ?_)
      · refine V_bipush (v := -2) dX7_tellAge_34 rfl ?_
        refine V_iret dX7_tellAge_36 rfl rfl ?_
        clear hR
        (try simp only [b01_0, b01_n] at *)
        refine ⟨?_, rfl, ?_, rfl⟩
        all_goals (simp only [sTell, cTell, okTell]; (try simp only [r2]); repeat' split)
        all_goals first | rfl | (exfalso; simp only [Int32.lt_iff_toInt_lt, Int32.le_iff_toInt_le, ← Int32.toInt_inj, Int32.reduceToInt] at *; omega)
      · refine V_iload_n dX7_tellAge_27 rfl ?_
        refine V_sipush (v := 400) dX7_tellAge_28 rfl ?_
        refine V_icmp_le (tgt := 37) dX7_tellAge_31 (by decide) (fun c31 => ?_) (fun c31 => ?_)
        · refine V_aload_n dX7_tellAge_37 rfl ?_
          refine V_iconst (v := 0) dX7_tellAge_38 rfl ?_
          refine V_iload_n dX7_tellAge_39 rfl ?_
          refine V_iload_n dX7_tellAge_40 rfl ?_
          refine V_callV (ci := 3) (qX3_add _ _ _ hR hn _ len hr s hs hsl hl8 _ _ _) dX7_tellAge_41 mlX7_224 mtX3_add ivX3_add rfl (sR hr) ⟨by omega, by omega⟩ (by decide) rfl rfl (by decide) (Nat.le_of_ble_eq_true rfl) rfl rfl ?_
          rintro _ _ _ _ ⟨rfl, rfl, rfl, rfl⟩
          refine V_iret dX7_tellAge_44 rfl rfl ?_
          have hp := hs
          rw [hpl] at hp
          have hlt := lt_nI (len := len) hp (by omega)
          have hA : -200 ≤ age ∧ age ≤ 400 := ⟨Int32.not_lt.mp c24, c31⟩
          refine ⟨?_, rfl, ?_, rfl⟩
          · unfold sTell
            rw [if_neg c2, if_pos (by rw [← r2]; exact b01_n.mp c15), if_pos hA, hpl]
            by_cases q : s < len
            · rw [if_pos q, if_pos (hlt.mpr q)]
            · rw [if_neg q, if_neg (fun h => q (hlt.mp h))]
          · unfold cTell okTell
            rw [if_neg c2]
            by_cases q : s < len
            · rw [if_pos q, if_pos ⟨by rw [← r2]; exact b01_n.mp c15, hA, hlt.mpr q⟩, nat_of_toInt hp, hpl]
            · rw [if_neg q, if_neg (fun h => q (hlt.mp h.2.2))]
        · refine V_bipush (v := -2) dX7_tellAge_34 rfl ?_
          refine V_iret dX7_tellAge_36 rfl rfl ?_
          clear hR
          (try simp only [b01_0, b01_n] at *)
          refine ⟨?_, rfl, ?_, rfl⟩
          all_goals (simp only [sTell, cTell, okTell]; (try simp only [r2]); repeat' split)
          all_goals first | rfl | (exfalso; simp only [Int32.lt_iff_toInt_lt, Int32.le_iff_toInt_le, ← Int32.toInt_inj, Int32.reduceToInt] at *; omega)
    · refine V_iconst (v := -1) dX7_tellAge_18 rfl ?_
      refine V_iret dX7_tellAge_19 rfl rfl ?_
      clear hR
      (try simp only [b01_0, b01_n] at *)
      refine ⟨?_, rfl, ?_, rfl⟩
      all_goals (simp only [sTell, cTell, okTell]; (try simp only [r2]); repeat' split)
      all_goals first | rfl | (exfalso; simp only [Int32.lt_iff_toInt_lt, Int32.le_iff_toInt_le, ← Int32.toInt_inj, Int32.reduceToInt] at *; omega)
  · refine V_aload_n dX7_tellAge_5 rfl ?_
    refine V_callV (ci := 3) (qX3_empty _ _ _ hR hn _ len hr) dX7_tellAge_6 mlX7_219 mtX3_empty ivX3_empty rfl (sR hr) ⟨by omega, by omega⟩ (by decide) rfl rfl (by decide) (Nat.le_of_ble_eq_true rfl) rfl rfl ?_
    rintro _ _ _ _ ⟨rfl, rfl, rfl, rfl⟩
    refine V_iret dX7_tellAge_9 rfl rfl ?_
    refine ⟨?_, rfl, ?_, rfl⟩
    · unfold sTell
      rw [if_pos c2]
    · unfold cTell
      rw [if_pos c2]
set_option maxRecDepth 4000 in
theorem qX7_see (n : Nat) (mi : MI) (mr : MR) (c : CT) (I : INV n mi mr c) (p age : Int32) : Ct KX7_see 4 0 0 [.ref 32, .int p, .int age] n mi mr (eqQ (some (.int (sTell (mi 174) 14 5 p age))) n (cTell mi 45 14 5 p age) mr) := by
  refine Ct.of2 [some (.ref 32), some (.int p), some (.int age)] (by decide +kernel) (Nat.le_of_ble_eq_true rfl) rfl ?_
  obtain ⟨hR, hn, ⟨⟨hN, hN6⟩, ⟨hW, hW5⟩, ⟨hL, hL5⟩, ⟨hT, hT100⟩, ⟨hS, hS5⟩, ⟨hP, hP8⟩, ⟨hBk, hB8⟩⟩, hrw⟩ := I.facts
  have hBD := I.2.2.1
  obtain ⟨⟨r1, r2, r3, r4, r5⟩, hper, hvin, htape, hseen, hnight, hbook⟩ := id hrw
  have hcN : nat (mi 40 1) (cN c) := by rw [r2]; exact hN
  have hcW : nat (mi 40 2) (cW c) := by rw [r3]; exact hW
  refine V_aload_n dX7_see_0 rfl ?_
  refine V_aload_n dX7_see_1 rfl ?_
  refine V_getr (b := 40) 7 1 dX7_see_2 (Or.inl lkX7_30) rfl rfl ⟨by omega, by omega⟩ (hR _ _ _ rfl) ?_
  refine V_getr (b := 45) 6 10 dX7_see_5 lnX7_198 rfl rfl ⟨by omega, by omega⟩ (hR _ _ _ rfl) ?_
  refine V_iload_n dX7_see_8 rfl ?_
  refine V_iload_n dX7_see_9 rfl ?_
  refine V_callV (ci := 7) (qX7_tellAge n mi mr c I 45 5 14 (cS c) (Or.inl ⟨40, Or.inl rfl, rfl, rfl⟩) (by decide) (hseen.1.symm ▸ hS) (by omega) hseen.1 _ _) dX7_see_10 mlX7_202 mtX7_tellAge ivX7_tellAge rfl rfl ⟨by omega, by omega⟩ (by decide) rfl rfl (by decide) (Nat.le_of_ble_eq_true rfl) rfl rfl ?_
  rintro _ _ _ _ ⟨rfl, rfl, rfl, rfl⟩
  refine V_iret dX7_see_13 rfl rfl ?_
  exact ⟨rfl, rfl, rfl, rfl⟩
set_option maxRecDepth 4000 in
theorem qX8_see (n : Nat) (mi : MI) (mr : MR) (c : CT) (hR : RF mr) (hn : 186 ≤ n) (hBD : BD (mi 174) c) (p age : Int32) : Ct KX8_see 3 0 0 [.ref 173, .int p, .int age] n mi mr (eqQ (some (.int (sTell (mi 174) 14 5 p age))) n (mTell mi 73 78 14 5 p age) mr) := by
  refine Ct.of2 [some (.ref 173), some (.int p), some (.int age)] (by decide +kernel) (Nat.le_of_ble_eq_true rfl) rfl ?_
  obtain ⟨⟨hN, hN6⟩, ⟨hW, hW5⟩, ⟨hL, hL5⟩, ⟨hT, hT100⟩, ⟨hS, hS5⟩, ⟨hP, hP8⟩, ⟨hBk, hB8⟩⟩ := hBD.1
  refine V_iload_n dX8_see_0 rfl ?_
  refine V_iconst (v := -1) dX8_see_1 rfl ?_
  refine V_icmp_ne (tgt := 15) dX8_see_2 (by decide) (fun c2 => ?_) (fun c2 => ?_)
  · refine V_aload_n dX8_see_15 rfl ?_
    refine V_iload_n dX8_see_16 rfl ?_
    refine V_callV (ci := 8) (qX8_isPerson _ _ _ hR hn _) dX8_see_17 mlX8_169 mtX8_isPerson ivX8_isPerson rfl rfl ⟨by omega, by omega⟩ (by decide) rfl rfl (by decide) (Nat.le_of_ble_eq_true rfl) rfl rfl ?_
    rintro _ _ _ _ ⟨rfl, rfl, rfl, rfl⟩
    simp only [leSub hN (by omega)]
    refine V_if_ne (tgt := 25) dX8_see_20 (by decide) (fun c20 => ?_) (fun c20 => ?_)
    · refine V_iload_n dX8_see_25 rfl ?_
      refine V_callS (qX8_isAge _ _ _ hR hn _) dX8_see_26 mlX8_243 mtX8_isAge smX8_isAge rfl rfl (by decide) (Nat.le_of_ble_eq_true rfl) rfl rfl ?_
      rintro _ _ _ _ ⟨rfl, rfl, rfl, rfl⟩
      refine V_if_ne (tgt := 35) dX8_see_29 (by decide) (fun c29 => ?_) (fun c29 => ?_)
      · refine V_aload_n dX8_see_35 rfl ?_
        refine V_getr (b := 174) 8 1 dX8_see_36 (Or.inl lkX8_9) rfl rfl ⟨by omega, by omega⟩ (hR _ _ _ rfl) ?_
        refine V_bipush (v := 14) dX8_see_39 rfl ?_
        refine V_iald (len := 938) 14 dX8_see_41 rfl ⟨by omega, by omega⟩ (by decide) (by omega) ?_
        refine V_iconst (v := 5) dX8_see_42 rfl ?_
        refine V_icmp_ne (tgt := 49) dX8_see_43 (by decide) (fun c43 => ?_) (fun c43 => ?_)
        · have h7 := hS
          unfold nat at h7
          have hlt : cS c < 5 := by
            have q := c43
            simp only [← Int32.toInt_inj, Int32.reduceToInt] at q
            omega
          have hb : mi 174 14 < 5 := by
            simp only [Int32.lt_iff_toInt_lt, Int32.reduceToInt]
            omega
          refine V_aload_n dX8_see_49 rfl ?_
          refine V_getr (b := 174) 8 1 dX8_see_50 (Or.inl lkX8_9) rfl rfl ⟨by omega, by omega⟩ (hR _ _ _ rfl) ?_
          refine V_bipush (v := 73) dX8_see_53 rfl ?_
          refine V_aload_n dX8_see_55 rfl ?_
          refine V_getr (b := 174) 8 1 dX8_see_56 (Or.inl lkX8_9) rfl rfl ⟨by omega, by omega⟩ (hR _ _ _ rfl) ?_
          refine V_bipush (v := 14) dX8_see_59 rfl ?_
          refine V_iald (len := 938) 14 dX8_see_61 rfl ⟨by omega, by omega⟩ (by decide) (by omega) ?_
          refine V_iadd dX8_see_62 ?_
          refine V_iload_n dX8_see_63 rfl ?_
          refine V_iast (len := 938) (73 + (cS c)) dX8_see_64 rfl ⟨by omega, by omega⟩ (ix_add (by decide) (by (try simp only [up2]); (repeat rw [if_neg (by omega)]); exact hS) (by omega)) (by omega) ?_
          refine V_aload_n dX8_see_65 rfl ?_
          refine V_getr (b := 174) 8 1 dX8_see_66 (Or.inl lkX8_9) rfl rfl ⟨by omega, by omega⟩ (hR _ _ _ rfl) ?_
          refine V_bipush (v := 78) dX8_see_69 rfl ?_
          refine V_aload_n dX8_see_71 rfl ?_
          refine V_getr (b := 174) 8 1 dX8_see_72 (Or.inl lkX8_9) rfl rfl ⟨by omega, by omega⟩ (hR _ _ _ rfl) ?_
          refine V_bipush (v := 14) dX8_see_75 rfl ?_
          refine V_iald (len := 938) 14 dX8_see_77 rfl ⟨by omega, by omega⟩ (by decide) (by omega) ?_
          refine V_iadd dX8_see_78 ?_
          refine V_iload_n dX8_see_79 rfl ?_
          refine V_iast (len := 938) (78 + (cS c)) dX8_see_80 rfl ⟨by omega, by omega⟩ (ix_add (by decide) (by (try simp only [up2]); (repeat rw [if_neg (by omega)]); exact hS) (by omega)) (by omega) ?_
          refine V_aload_n dX8_see_81 rfl ?_
          refine V_getr (b := 174) 8 1 dX8_see_82 (Or.inl lkX8_9) rfl rfl ⟨by omega, by omega⟩ (hR _ _ _ rfl) ?_
          refine V_bipush (v := 14) dX8_see_85 rfl ?_
          refine V_dup2 dX8_see_87 rfl rfl ?_
          refine V_iald (len := 938) 14 dX8_see_88 rfl ⟨by omega, by omega⟩ (by decide) (by omega) ?_
          refine V_iconst (v := 1) dX8_see_89 rfl ?_
          refine V_iadd dX8_see_90 ?_
          refine V_iast (len := 938) 14 dX8_see_91 rfl ⟨by omega, by omega⟩ (by decide) (by omega) ?_
          refine V_aload_n dX8_see_92 rfl ?_
          refine V_getr (b := 174) 8 1 dX8_see_93 (Or.inl lkX8_9) rfl rfl ⟨by omega, by omega⟩ (hR _ _ _ rfl) ?_
          refine V_bipush (v := 14) dX8_see_96 rfl ?_
          refine V_iald (len := 938) 14 dX8_see_98 rfl ⟨by omega, by omega⟩ (by decide) (by omega) ?_
          refine V_iret dX8_see_99 rfl rfl ?_
          have e4 : ∀ (m : MI) (z : Int32), up2 m 174 14 z 174 14 = z := fun m z => up2_s
          have e5 : ∀ x y, up2 (up2 mi 174 (73 + cS c) x) 174 (78 + cS c) y 174 14 = mi 174 14 := fun x y => by simp only [up2]; rw [if_neg (by omega), if_neg (by omega)]
          refine ⟨?_, rfl, ?_, rfl⟩
          · rw [e4, e5]
            unfold sTell
            rw [if_neg c2, if_pos (b01_n.mp c20), if_pos (b01_n.mp c29), if_pos hb]
          · unfold mTell
            rw [if_neg c2, if_pos ⟨b01_n.mp c20, b01_n.mp c29, hb⟩, nat_of_toInt hS, e5]
        · refine V_bipush (v := -4) dX8_see_46 rfl ?_
          refine V_iret dX8_see_48 rfl rfl ?_
          clear hR
          (try simp only [b01_0, b01_n] at *)
          refine ⟨?_, rfl, ?_, rfl⟩
          all_goals (simp only [sTell, mTell, okTell]; repeat' split)
          all_goals first | rfl | (exfalso; simp only [Int32.lt_iff_toInt_lt, Int32.le_iff_toInt_le, ← Int32.toInt_inj, Int32.reduceToInt] at *; omega)
      · refine V_bipush (v := -2) dX8_see_32 rfl ?_
        refine V_iret dX8_see_34 rfl rfl ?_
        clear hR
        (try simp only [b01_0, b01_n] at *)
        refine ⟨?_, rfl, ?_, rfl⟩
        all_goals (simp only [sTell, mTell, okTell]; repeat' split)
        all_goals first | rfl | (exfalso; simp only [Int32.lt_iff_toInt_lt, Int32.le_iff_toInt_le, ← Int32.toInt_inj, Int32.reduceToInt] at *; omega)
    · refine V_iconst (v := -1) dX8_see_23 rfl ?_
      refine V_iret dX8_see_24 rfl rfl ?_
      clear hR
      (try simp only [b01_0, b01_n] at *)
      refine ⟨?_, rfl, ?_, rfl⟩
      all_goals (simp only [sTell, mTell, okTell]; repeat' split)
      all_goals first | rfl | (exfalso; simp only [Int32.lt_iff_toInt_lt, Int32.le_iff_toInt_le, ← Int32.toInt_inj, Int32.reduceToInt] at *; omega)
  · refine V_aload_n dX8_see_5 rfl ?_
    refine V_getr (b := 174) 8 1 dX8_see_6 (Or.inl lkX8_9) rfl rfl ⟨by omega, by omega⟩ (hR _ _ _ rfl) ?_
    refine V_bipush (v := 14) dX8_see_9 rfl ?_
    refine V_iconst (v := 0) dX8_see_11 rfl ?_
    refine V_iast (len := 938) 14 dX8_see_12 rfl ⟨by omega, by omega⟩ (by decide) (by omega) ?_
    refine V_iconst (v := 0) dX8_see_13 rfl ?_
    refine V_iret dX8_see_14 rfl rfl ?_
    refine ⟨?_, rfl, ?_, rfl⟩
    · unfold sTell
      rw [if_pos c2]
    · unfold mTell
      rw [if_pos c2]
set_option maxRecDepth 4000 in
theorem qX7_book (n : Nat) (mi : MI) (mr : MR) (c : CT) (I : INV n mi mr c) (p age : Int32) : Ct KX7_book 4 0 0 [.ref 32, .int p, .int age] n mi mr (eqQ (some (.int (sTell (mi 174) 16 8 p age))) n (cTell mi 53 16 8 p age) mr) := by
  refine Ct.of2 [some (.ref 32), some (.int p), some (.int age)] (by decide +kernel) (Nat.le_of_ble_eq_true rfl) rfl ?_
  obtain ⟨hR, hn, ⟨⟨hN, hN6⟩, ⟨hW, hW5⟩, ⟨hL, hL5⟩, ⟨hT, hT100⟩, ⟨hS, hS5⟩, ⟨hP, hP8⟩, ⟨hBk, hB8⟩⟩, hrw⟩ := I.facts
  have hBD := I.2.2.1
  obtain ⟨⟨r1, r2, r3, r4, r5⟩, hper, hvin, htape, hseen, hnight, hbook⟩ := id hrw
  have hcN : nat (mi 40 1) (cN c) := by rw [r2]; exact hN
  have hcW : nat (mi 40 2) (cW c) := by rw [r3]; exact hW
  refine V_aload_n dX7_book_0 rfl ?_
  refine V_aload_n dX7_book_1 rfl ?_
  refine V_getr (b := 40) 7 1 dX7_book_2 (Or.inl lkX7_30) rfl rfl ⟨by omega, by omega⟩ (hR _ _ _ rfl) ?_
  refine V_getr (b := 53) 6 12 dX7_book_5 lnX7_238 rfl rfl ⟨by omega, by omega⟩ (hR _ _ _ rfl) ?_
  refine V_iload_n dX7_book_8 rfl ?_
  refine V_iload_n dX7_book_9 rfl ?_
  refine V_callV (ci := 7) (qX7_tellAge n mi mr c I 53 8 16 (cB c) (Or.inr (Or.inr ⟨40, Or.inl rfl, rfl, rfl⟩)) (by decide) (hbook.1.symm ▸ hBk) (by omega) hbook.1 _ _) dX7_book_10 mlX7_202 mtX7_tellAge ivX7_tellAge rfl rfl ⟨by omega, by omega⟩ (by decide) rfl rfl (by decide) (Nat.le_of_ble_eq_true rfl) rfl rfl ?_
  rintro _ _ _ _ ⟨rfl, rfl, rfl, rfl⟩
  refine V_iret dX7_book_13 rfl rfl ?_
  exact ⟨rfl, rfl, rfl, rfl⟩
set_option maxRecDepth 4000 in
theorem qX8_book (n : Nat) (mi : MI) (mr : MR) (c : CT) (hR : RF mr) (hn : 186 ≤ n) (hBD : BD (mi 174) c) (p age : Int32) : Ct KX8_book 3 0 0 [.ref 173, .int p, .int age] n mi mr (eqQ (some (.int (sTell (mi 174) 16 8 p age))) n (mTell mi 107 115 16 8 p age) mr) := by
  refine Ct.of2 [some (.ref 173), some (.int p), some (.int age)] (by decide +kernel) (Nat.le_of_ble_eq_true rfl) rfl ?_
  obtain ⟨⟨hN, hN6⟩, ⟨hW, hW5⟩, ⟨hL, hL5⟩, ⟨hT, hT100⟩, ⟨hS, hS5⟩, ⟨hP, hP8⟩, ⟨hBk, hB8⟩⟩ := hBD.1
  refine V_iload_n dX8_book_0 rfl ?_
  refine V_iconst (v := -1) dX8_book_1 rfl ?_
  refine V_icmp_ne (tgt := 15) dX8_book_2 (by decide) (fun c2 => ?_) (fun c2 => ?_)
  · refine V_aload_n dX8_book_15 rfl ?_
    refine V_iload_n dX8_book_16 rfl ?_
    refine V_callV (ci := 8) (qX8_isPerson _ _ _ hR hn _) dX8_book_17 mlX8_169 mtX8_isPerson ivX8_isPerson rfl rfl ⟨by omega, by omega⟩ (by decide) rfl rfl (by decide) (Nat.le_of_ble_eq_true rfl) rfl rfl ?_
    rintro _ _ _ _ ⟨rfl, rfl, rfl, rfl⟩
    simp only [leSub hN (by omega)]
    refine V_if_ne (tgt := 25) dX8_book_20 (by decide) (fun c20 => ?_) (fun c20 => ?_)
    · refine V_iload_n dX8_book_25 rfl ?_
      refine V_callS (qX8_isAge _ _ _ hR hn _) dX8_book_26 mlX8_243 mtX8_isAge smX8_isAge rfl rfl (by decide) (Nat.le_of_ble_eq_true rfl) rfl rfl ?_
      rintro _ _ _ _ ⟨rfl, rfl, rfl, rfl⟩
      refine V_if_ne (tgt := 35) dX8_book_29 (by decide) (fun c29 => ?_) (fun c29 => ?_)
      · refine V_aload_n dX8_book_35 rfl ?_
        refine V_getr (b := 174) 8 1 dX8_book_36 (Or.inl lkX8_9) rfl rfl ⟨by omega, by omega⟩ (hR _ _ _ rfl) ?_
        refine V_bipush (v := 16) dX8_book_39 rfl ?_
        refine V_iald (len := 938) 16 dX8_book_41 rfl ⟨by omega, by omega⟩ (by decide) (by omega) ?_
        refine V_bipush (v := 8) dX8_book_42 rfl ?_
        refine V_icmp_ne (tgt := 50) dX8_book_44 (by decide) (fun c44 => ?_) (fun c44 => ?_)
        · have h7 := hBk
          unfold nat at h7
          have hlt : cB c < 8 := by
            have q := c44
            simp only [← Int32.toInt_inj, Int32.reduceToInt] at q
            omega
          have hb : mi 174 16 < 8 := by
            simp only [Int32.lt_iff_toInt_lt, Int32.reduceToInt]
            omega
          refine V_aload_n dX8_book_50 rfl ?_
          refine V_getr (b := 174) 8 1 dX8_book_51 (Or.inl lkX8_9) rfl rfl ⟨by omega, by omega⟩ (hR _ _ _ rfl) ?_
          refine V_bipush (v := 107) dX8_book_54 rfl ?_
          refine V_aload_n dX8_book_56 rfl ?_
          refine V_getr (b := 174) 8 1 dX8_book_57 (Or.inl lkX8_9) rfl rfl ⟨by omega, by omega⟩ (hR _ _ _ rfl) ?_
          refine V_bipush (v := 16) dX8_book_60 rfl ?_
          refine V_iald (len := 938) 16 dX8_book_62 rfl ⟨by omega, by omega⟩ (by decide) (by omega) ?_
          refine V_iadd dX8_book_63 ?_
          refine V_iload_n dX8_book_64 rfl ?_
          refine V_iast (len := 938) (107 + (cB c)) dX8_book_65 rfl ⟨by omega, by omega⟩ (ix_add (by decide) (by (try simp only [up2]); (repeat rw [if_neg (by omega)]); exact hBk) (by omega)) (by omega) ?_
          refine V_aload_n dX8_book_66 rfl ?_
          refine V_getr (b := 174) 8 1 dX8_book_67 (Or.inl lkX8_9) rfl rfl ⟨by omega, by omega⟩ (hR _ _ _ rfl) ?_
          refine V_bipush (v := 115) dX8_book_70 rfl ?_
          refine V_aload_n dX8_book_72 rfl ?_
          refine V_getr (b := 174) 8 1 dX8_book_73 (Or.inl lkX8_9) rfl rfl ⟨by omega, by omega⟩ (hR _ _ _ rfl) ?_
          refine V_bipush (v := 16) dX8_book_76 rfl ?_
          refine V_iald (len := 938) 16 dX8_book_78 rfl ⟨by omega, by omega⟩ (by decide) (by omega) ?_
          refine V_iadd dX8_book_79 ?_
          refine V_iload_n dX8_book_80 rfl ?_
          refine V_iast (len := 938) (115 + (cB c)) dX8_book_81 rfl ⟨by omega, by omega⟩ (ix_add (by decide) (by (try simp only [up2]); (repeat rw [if_neg (by omega)]); exact hBk) (by omega)) (by omega) ?_
          refine V_aload_n dX8_book_82 rfl ?_
          refine V_getr (b := 174) 8 1 dX8_book_83 (Or.inl lkX8_9) rfl rfl ⟨by omega, by omega⟩ (hR _ _ _ rfl) ?_
          refine V_bipush (v := 16) dX8_book_86 rfl ?_
          refine V_dup2 dX8_book_88 rfl rfl ?_
          refine V_iald (len := 938) 16 dX8_book_89 rfl ⟨by omega, by omega⟩ (by decide) (by omega) ?_
          refine V_iconst (v := 1) dX8_book_90 rfl ?_
          refine V_iadd dX8_book_91 ?_
          refine V_iast (len := 938) 16 dX8_book_92 rfl ⟨by omega, by omega⟩ (by decide) (by omega) ?_
          refine V_aload_n dX8_book_93 rfl ?_
          refine V_getr (b := 174) 8 1 dX8_book_94 (Or.inl lkX8_9) rfl rfl ⟨by omega, by omega⟩ (hR _ _ _ rfl) ?_
          refine V_bipush (v := 16) dX8_book_97 rfl ?_
          refine V_iald (len := 938) 16 dX8_book_99 rfl ⟨by omega, by omega⟩ (by decide) (by omega) ?_
          refine V_iret dX8_book_100 rfl rfl ?_
          have e4 : ∀ (m : MI) (z : Int32), up2 m 174 16 z 174 16 = z := fun m z => up2_s
          have e5 : ∀ x y, up2 (up2 mi 174 (107 + cB c) x) 174 (115 + cB c) y 174 16 = mi 174 16 := fun x y => by simp only [up2]; rw [if_neg (by omega), if_neg (by omega)]
          refine ⟨?_, rfl, ?_, rfl⟩
          · rw [e4, e5]
            unfold sTell
            rw [if_neg c2, if_pos (b01_n.mp c20), if_pos (b01_n.mp c29), if_pos hb]
          · unfold mTell
            rw [if_neg c2, if_pos ⟨b01_n.mp c20, b01_n.mp c29, hb⟩, nat_of_toInt hBk, e5]
        · refine V_bipush (v := -4) dX8_book_47 rfl ?_
          refine V_iret dX8_book_49 rfl rfl ?_
          clear hR
          (try simp only [b01_0, b01_n] at *)
          refine ⟨?_, rfl, ?_, rfl⟩
          all_goals (simp only [sTell, mTell, okTell]; repeat' split)
          all_goals first | rfl | (exfalso; simp only [Int32.lt_iff_toInt_lt, Int32.le_iff_toInt_le, ← Int32.toInt_inj, Int32.reduceToInt] at *; omega)
      · refine V_bipush (v := -2) dX8_book_32 rfl ?_
        refine V_iret dX8_book_34 rfl rfl ?_
        clear hR
        (try simp only [b01_0, b01_n] at *)
        refine ⟨?_, rfl, ?_, rfl⟩
        all_goals (simp only [sTell, mTell, okTell]; repeat' split)
        all_goals first | rfl | (exfalso; simp only [Int32.lt_iff_toInt_lt, Int32.le_iff_toInt_le, ← Int32.toInt_inj, Int32.reduceToInt] at *; omega)
    · refine V_iconst (v := -1) dX8_book_23 rfl ?_
      refine V_iret dX8_book_24 rfl rfl ?_
      clear hR
      (try simp only [b01_0, b01_n] at *)
      refine ⟨?_, rfl, ?_, rfl⟩
      all_goals (simp only [sTell, mTell, okTell]; repeat' split)
      all_goals first | rfl | (exfalso; simp only [Int32.lt_iff_toInt_lt, Int32.le_iff_toInt_le, ← Int32.toInt_inj, Int32.reduceToInt] at *; omega)
  · refine V_aload_n dX8_book_5 rfl ?_
    refine V_getr (b := 174) 8 1 dX8_book_6 (Or.inl lkX8_9) rfl rfl ⟨by omega, by omega⟩ (hR _ _ _ rfl) ?_
    refine V_bipush (v := 16) dX8_book_9 rfl ?_
    refine V_iconst (v := 0) dX8_book_11 rfl ?_
    refine V_iast (len := 938) 16 dX8_book_12 rfl ⟨by omega, by omega⟩ (by decide) (by omega) ?_
    refine V_iconst (v := 0) dX8_book_13 rfl ?_
    refine V_iret dX8_book_14 rfl rfl ?_
    refine ⟨?_, rfl, ?_, rfl⟩
    · unfold sTell
      rw [if_pos c2]
    · unfold mTell
      rw [if_pos c2]
abbrev noNight (S : Nat → Int32) (x p v : Int32) : Prop := ¬ (0 ≤ x ∧ x ≤ 2) ∨ (¬ x = 0 ∧ ¬ (0 ≤ p ∧ p < S 12)) ∨ (x = 1 ∧ ¬ (0 ≤ v ∧ v < S 19))
def sNight (S : Nat → Int32) (x p v : Int32) : Int32 := if x = -1 then 0 else if noNight S x p v then -1 else if S 15 < 8 then S 15 + 1 else -4
def cNight (mi : MI) (x p v : Int32) : MI := if x = -1 then up2 mi 49 3 0 else if noNight (mi 174) x p v then mi else if mi 174 15 < 8 then up2 (up2 (up2 (up2 mi 50 (mi 174 15).toNatClampNeg x) 51 (mi 174 15).toNatClampNeg p) 52 (mi 174 15).toNatClampNeg v) 49 3 (mi 174 15 + 1) else mi
def mNight (mi : MI) (x p v : Int32) : MI := if x = -1 then up2 mi 174 15 0 else if noNight (mi 174) x p v then mi else if mi 174 15 < 8 then up2 (up2 (up2 (up2 mi 174 (83 + (mi 174 15).toNatClampNeg) x) 174 (91 + (mi 174 15).toNatClampNeg) p) 174 (99 + (mi 174 15).toNatClampNeg) v) 174 15 (mi 174 15 + 1) else mi
set_option maxRecDepth 4000 in
theorem qX7_night (n : Nat) (mi : MI) (mr : MR) (c : CT) (I : INV n mi mr c) (x p v : Int32) : Ct KX7_night 3 0 0 [.ref 32, .int x, .int p, .int v] n mi mr (eqQ (some (.int (sNight (mi 174) x p v))) n (cNight mi x p v) mr) := by
  refine Ct.of2 [some (.ref 32), some (.int x), some (.int p), some (.int v)] (by decide +kernel) (Nat.le_of_ble_eq_true rfl) rfl ?_
  obtain ⟨hR, hn, ⟨⟨hN, hN6⟩, ⟨hW, hW5⟩, ⟨hL, hL5⟩, ⟨hT, hT100⟩, ⟨hS, hS5⟩, ⟨hP, hP8⟩, ⟨hBk, hB8⟩⟩, hrw⟩ := I.facts
  have hBD := I.2.2.1
  obtain ⟨⟨r1, r2, r3, r4, r5⟩, hper, hvin, htape, hseen, hnight, hbook⟩ := id hrw
  have hcN : nat (mi 40 1) (cN c) := by rw [r2]; exact hN
  have hcW : nat (mi 40 2) (cW c) := by rw [r3]; exact hW
  clear I
  refine V_iload_n dX7_night_0 rfl ?_
  refine V_iconst (v := -1) dX7_night_1 rfl ?_
  refine V_icmp_ne (tgt := 16) dX7_night_2 (by decide) (fun c2 => ?_) (fun c2 => ?_)
  · refine V_iload_n dX7_night_16 rfl ?_
    refine V_if_lt (tgt := 50) dX7_night_17 (by decide) (fun c17 => ?_) (fun c17 => ?_)
    · refine V_iconst (v := -1) dX7_night_50 rfl ?_
      refine V_iret dX7_night_51 rfl rfl ?_
      clear hR
      (try simp only [b01_0, b01_n] at *)
      refine ⟨?_, rfl, ?_, rfl⟩
      all_goals (simp only [sNight, cNight, noNight]; (try simp only [r2, r3]); repeat' split)
      all_goals first | rfl | (exfalso; simp only [Int32.lt_iff_toInt_lt, Int32.le_iff_toInt_le, ← Int32.toInt_inj, Int32.reduceToInt] at *; omega)
    · refine V_iload_n dX7_night_20 rfl ?_
      refine V_iconst (v := 2) dX7_night_21 rfl ?_
      refine V_icmp_gt (tgt := 50) dX7_night_22 (by decide) (fun c22 => ?_) (fun c22 => ?_)
      · refine V_iconst (v := -1) dX7_night_50 rfl ?_
        refine V_iret dX7_night_51 rfl rfl ?_
        clear hR
        (try simp only [b01_0, b01_n] at *)
        refine ⟨?_, rfl, ?_, rfl⟩
        all_goals (simp only [sNight, cNight, noNight]; (try simp only [r2, r3]); repeat' split)
        all_goals first | rfl | (exfalso; simp only [Int32.lt_iff_toInt_lt, Int32.le_iff_toInt_le, ← Int32.toInt_inj, Int32.reduceToInt] at *; omega)
      · refine V_iload_n dX7_night_25 rfl ?_
        refine V_if_eq (tgt := 37) dX7_night_26 (by decide) (fun c26 => ?_) (fun c26 => ?_)
        · refine V_iload_n dX7_night_37 rfl ?_
          refine V_iconst (v := 1) dX7_night_38 rfl ?_
          refine V_icmp_ne (tgt := 52) dX7_night_39 (by decide) (fun c39 => ?_) (fun c39 => ?_)
          · refine V_aload_n dX7_night_52 rfl ?_
            refine V_getr (b := 40) 7 1 dX7_night_53 (Or.inl lkX7_30) rfl rfl ⟨by omega, by omega⟩ (hR _ _ _ rfl) ?_
            refine V_getr (b := 49) 6 11 dX7_night_56 lnX7_216 rfl rfl ⟨by omega, by omega⟩ (hR _ _ _ rfl) ?_
            refine V_iload_n dX7_night_59 rfl ?_
            refine V_iload_n dX7_night_60 rfl ?_
            refine V_iload_n dX7_night_61 rfl ?_
            refine V_callV (ci := 3) (qX3_add _ _ _ hR hn _ 8 (Or.inr (Or.inl ⟨40, Or.inl rfl, rfl, rfl⟩)) (cP c) (hnight.1.symm ▸ hP) hP8 (by decide) _ _ _) dX7_night_62 mlX7_224 mtX3_add ivX3_add rfl rfl ⟨by omega, by omega⟩ (by decide) rfl rfl (by decide) (Nat.le_of_ble_eq_true rfl) rfl rfl ?_
            rintro _ _ _ _ ⟨rfl, rfl, rfl, rfl⟩
            refine V_iret dX7_night_65 rfl rfl ?_
            have hne : ¬ noNight (mi 174) x p v := by
              unfold noNight
              rw [← r2, ← r3]
              (try simp only [b01_0, b01_n] at *)
              clear hR
              intro h
              simp only [Int32.lt_iff_toInt_lt, Int32.le_iff_toInt_le, ← Int32.toInt_inj, Int32.reduceToInt] at *
              omega
            have hlt : mi 174 15 < 8 ↔ cP c < 8 := lt_nI (len := 8) hP (by omega)
            refine ⟨?_, rfl, ?_, rfl⟩
            · unfold sNight
              rw [if_neg c2, if_neg hne, show mi 49 3 = mi 174 15 from hnight.1]
              by_cases q : cP c < 8
              · rw [if_pos q, if_pos (hlt.mpr q)]
              · rw [if_neg q, if_neg (fun h => q (hlt.mp h))]
            · unfold cNight
              rw [if_neg c2, if_neg hne, show mi 49 3 = mi 174 15 from hnight.1, nat_of_toInt hP]
              by_cases q : cP c < 8
              · rw [if_pos q, if_pos (hlt.mpr q)]
              · rw [if_neg q, if_neg (fun h => q (hlt.mp h))]
          · refine V_aload_n dX7_night_42 rfl ?_
            refine V_iload_n dX7_night_43 rfl ?_
            refine V_callV (ci := 7) (qX7_isVintage _ _ _ hR hn _) dX7_night_44 mlX7_140 mtX7_isVintage ivX7_isVintage rfl rfl ⟨by omega, by omega⟩ (by decide) rfl rfl (by decide) (Nat.le_of_ble_eq_true rfl) rfl rfl ?_
            rintro _ _ _ _ ⟨rfl, rfl, rfl, rfl⟩
            refine V_if_ne (tgt := 52) dX7_night_47 (by decide) (fun c47 => ?_) (fun c47 => ?_)
            · refine V_aload_n dX7_night_52 rfl ?_
              refine V_getr (b := 40) 7 1 dX7_night_53 (Or.inl lkX7_30) rfl rfl ⟨by omega, by omega⟩ (hR _ _ _ rfl) ?_
              refine V_getr (b := 49) 6 11 dX7_night_56 lnX7_216 rfl rfl ⟨by omega, by omega⟩ (hR _ _ _ rfl) ?_
              refine V_iload_n dX7_night_59 rfl ?_
              refine V_iload_n dX7_night_60 rfl ?_
              refine V_iload_n dX7_night_61 rfl ?_
              refine V_callV (ci := 3) (qX3_add _ _ _ hR hn _ 8 (Or.inr (Or.inl ⟨40, Or.inl rfl, rfl, rfl⟩)) (cP c) (hnight.1.symm ▸ hP) hP8 (by decide) _ _ _) dX7_night_62 mlX7_224 mtX3_add ivX3_add rfl rfl ⟨by omega, by omega⟩ (by decide) rfl rfl (by decide) (Nat.le_of_ble_eq_true rfl) rfl rfl ?_
              rintro _ _ _ _ ⟨rfl, rfl, rfl, rfl⟩
              refine V_iret dX7_night_65 rfl rfl ?_
              have hne : ¬ noNight (mi 174) x p v := by
                unfold noNight
                rw [← r2, ← r3]
                (try simp only [b01_0, b01_n] at *)
                clear hR
                intro h
                simp only [Int32.lt_iff_toInt_lt, Int32.le_iff_toInt_le, ← Int32.toInt_inj, Int32.reduceToInt] at *
                omega
              have hlt : mi 174 15 < 8 ↔ cP c < 8 := lt_nI (len := 8) hP (by omega)
              refine ⟨?_, rfl, ?_, rfl⟩
              · unfold sNight
                rw [if_neg c2, if_neg hne, show mi 49 3 = mi 174 15 from hnight.1]
                by_cases q : cP c < 8
                · rw [if_pos q, if_pos (hlt.mpr q)]
                · rw [if_neg q, if_neg (fun h => q (hlt.mp h))]
              · unfold cNight
                rw [if_neg c2, if_neg hne, show mi 49 3 = mi 174 15 from hnight.1, nat_of_toInt hP]
                by_cases q : cP c < 8
                · rw [if_pos q, if_pos (hlt.mpr q)]
                · rw [if_neg q, if_neg (fun h => q (hlt.mp h))]
            · refine V_iconst (v := -1) dX7_night_50 rfl ?_
              refine V_iret dX7_night_51 rfl rfl ?_
              clear hR
              (try simp only [b01_0, b01_n] at *)
              refine ⟨?_, rfl, ?_, rfl⟩
              all_goals (simp only [sNight, cNight, noNight]; (try simp only [r2, r3]); repeat' split)
              all_goals first | rfl | (exfalso; simp only [Int32.lt_iff_toInt_lt, Int32.le_iff_toInt_le, ← Int32.toInt_inj, Int32.reduceToInt] at *; omega)
        · refine V_aload_n dX7_night_29 rfl ?_
          refine V_iload_n dX7_night_30 rfl ?_
          refine V_callV (ci := 7) (qX7_isOne _ _ _ hR hn _) dX7_night_31 mlX7_105 mtX7_isOne ivX7_isOne rfl rfl ⟨by omega, by omega⟩ (by decide) rfl rfl (by decide) (Nat.le_of_ble_eq_true rfl) rfl rfl ?_
          rintro _ _ _ _ ⟨rfl, rfl, rfl, rfl⟩
          refine V_if_eq (tgt := 50) dX7_night_34 (by decide) (fun c34 => ?_) (fun c34 => ?_)
          · refine V_iconst (v := -1) dX7_night_50 rfl ?_
            refine V_iret dX7_night_51 rfl rfl ?_
            clear hR
            (try simp only [b01_0, b01_n] at *)
            refine ⟨?_, rfl, ?_, rfl⟩
            all_goals (simp only [sNight, cNight, noNight]; (try simp only [r2, r3]); repeat' split)
            all_goals first | rfl | (exfalso; simp only [Int32.lt_iff_toInt_lt, Int32.le_iff_toInt_le, ← Int32.toInt_inj, Int32.reduceToInt] at *; omega)
          · refine V_iload_n dX7_night_37 rfl ?_
            refine V_iconst (v := 1) dX7_night_38 rfl ?_
            refine V_icmp_ne (tgt := 52) dX7_night_39 (by decide) (fun c39 => ?_) (fun c39 => ?_)
            · refine V_aload_n dX7_night_52 rfl ?_
              refine V_getr (b := 40) 7 1 dX7_night_53 (Or.inl lkX7_30) rfl rfl ⟨by omega, by omega⟩ (hR _ _ _ rfl) ?_
              refine V_getr (b := 49) 6 11 dX7_night_56 lnX7_216 rfl rfl ⟨by omega, by omega⟩ (hR _ _ _ rfl) ?_
              refine V_iload_n dX7_night_59 rfl ?_
              refine V_iload_n dX7_night_60 rfl ?_
              refine V_iload_n dX7_night_61 rfl ?_
              refine V_callV (ci := 3) (qX3_add _ _ _ hR hn _ 8 (Or.inr (Or.inl ⟨40, Or.inl rfl, rfl, rfl⟩)) (cP c) (hnight.1.symm ▸ hP) hP8 (by decide) _ _ _) dX7_night_62 mlX7_224 mtX3_add ivX3_add rfl rfl ⟨by omega, by omega⟩ (by decide) rfl rfl (by decide) (Nat.le_of_ble_eq_true rfl) rfl rfl ?_
              rintro _ _ _ _ ⟨rfl, rfl, rfl, rfl⟩
              refine V_iret dX7_night_65 rfl rfl ?_
              have hne : ¬ noNight (mi 174) x p v := by
                unfold noNight
                rw [← r2, ← r3]
                (try simp only [b01_0, b01_n] at *)
                clear hR
                intro h
                simp only [Int32.lt_iff_toInt_lt, Int32.le_iff_toInt_le, ← Int32.toInt_inj, Int32.reduceToInt] at *
                omega
              have hlt : mi 174 15 < 8 ↔ cP c < 8 := lt_nI (len := 8) hP (by omega)
              refine ⟨?_, rfl, ?_, rfl⟩
              · unfold sNight
                rw [if_neg c2, if_neg hne, show mi 49 3 = mi 174 15 from hnight.1]
                by_cases q : cP c < 8
                · rw [if_pos q, if_pos (hlt.mpr q)]
                · rw [if_neg q, if_neg (fun h => q (hlt.mp h))]
              · unfold cNight
                rw [if_neg c2, if_neg hne, show mi 49 3 = mi 174 15 from hnight.1, nat_of_toInt hP]
                by_cases q : cP c < 8
                · rw [if_pos q, if_pos (hlt.mpr q)]
                · rw [if_neg q, if_neg (fun h => q (hlt.mp h))]
            · refine V_aload_n dX7_night_42 rfl ?_
              refine V_iload_n dX7_night_43 rfl ?_
              refine V_callV (ci := 7) (qX7_isVintage _ _ _ hR hn _) dX7_night_44 mlX7_140 mtX7_isVintage ivX7_isVintage rfl rfl ⟨by omega, by omega⟩ (by decide) rfl rfl (by decide) (Nat.le_of_ble_eq_true rfl) rfl rfl ?_
              rintro _ _ _ _ ⟨rfl, rfl, rfl, rfl⟩
              refine V_if_ne (tgt := 52) dX7_night_47 (by decide) (fun c47 => ?_) (fun c47 => ?_)
              · refine V_aload_n dX7_night_52 rfl ?_
                refine V_getr (b := 40) 7 1 dX7_night_53 (Or.inl lkX7_30) rfl rfl ⟨by omega, by omega⟩ (hR _ _ _ rfl) ?_
                refine V_getr (b := 49) 6 11 dX7_night_56 lnX7_216 rfl rfl ⟨by omega, by omega⟩ (hR _ _ _ rfl) ?_
                refine V_iload_n dX7_night_59 rfl ?_
                refine V_iload_n dX7_night_60 rfl ?_
                refine V_iload_n dX7_night_61 rfl ?_
                refine V_callV (ci := 3) (qX3_add _ _ _ hR hn _ 8 (Or.inr (Or.inl ⟨40, Or.inl rfl, rfl, rfl⟩)) (cP c) (hnight.1.symm ▸ hP) hP8 (by decide) _ _ _) dX7_night_62 mlX7_224 mtX3_add ivX3_add rfl rfl ⟨by omega, by omega⟩ (by decide) rfl rfl (by decide) (Nat.le_of_ble_eq_true rfl) rfl rfl ?_
                rintro _ _ _ _ ⟨rfl, rfl, rfl, rfl⟩
                refine V_iret dX7_night_65 rfl rfl ?_
                have hne : ¬ noNight (mi 174) x p v := by
                  unfold noNight
                  rw [← r2, ← r3]
                  (try simp only [b01_0, b01_n] at *)
                  clear hR
                  intro h
                  simp only [Int32.lt_iff_toInt_lt, Int32.le_iff_toInt_le, ← Int32.toInt_inj, Int32.reduceToInt] at *
                  omega
                have hlt : mi 174 15 < 8 ↔ cP c < 8 := lt_nI (len := 8) hP (by omega)
                refine ⟨?_, rfl, ?_, rfl⟩
                · unfold sNight
                  rw [if_neg c2, if_neg hne, show mi 49 3 = mi 174 15 from hnight.1]
                  by_cases q : cP c < 8
                  · rw [if_pos q, if_pos (hlt.mpr q)]
                  · rw [if_neg q, if_neg (fun h => q (hlt.mp h))]
                · unfold cNight
                  rw [if_neg c2, if_neg hne, show mi 49 3 = mi 174 15 from hnight.1, nat_of_toInt hP]
                  by_cases q : cP c < 8
                  · rw [if_pos q, if_pos (hlt.mpr q)]
                  · rw [if_neg q, if_neg (fun h => q (hlt.mp h))]
              · refine V_iconst (v := -1) dX7_night_50 rfl ?_
                refine V_iret dX7_night_51 rfl rfl ?_
                clear hR
                (try simp only [b01_0, b01_n] at *)
                refine ⟨?_, rfl, ?_, rfl⟩
                all_goals (simp only [sNight, cNight, noNight]; (try simp only [r2, r3]); repeat' split)
                all_goals first | rfl | (exfalso; simp only [Int32.lt_iff_toInt_lt, Int32.le_iff_toInt_le, ← Int32.toInt_inj, Int32.reduceToInt] at *; omega)
  · refine V_aload_n dX7_night_5 rfl ?_
    refine V_getr (b := 40) 7 1 dX7_night_6 (Or.inl lkX7_30) rfl rfl ⟨by omega, by omega⟩ (hR _ _ _ rfl) ?_
    refine V_getr (b := 49) 6 11 dX7_night_9 lnX7_216 rfl rfl ⟨by omega, by omega⟩ (hR _ _ _ rfl) ?_
    refine V_callV (ci := 3) (qX3_empty _ _ _ hR hn _ 8 (Or.inr (Or.inl ⟨40, Or.inl rfl, rfl, rfl⟩))) dX7_night_12 mlX7_219 mtX3_empty ivX3_empty rfl rfl ⟨by omega, by omega⟩ (by decide) rfl rfl (by decide) (Nat.le_of_ble_eq_true rfl) rfl rfl ?_
    rintro _ _ _ _ ⟨rfl, rfl, rfl, rfl⟩
    refine V_iret dX7_night_15 rfl rfl ?_
    refine ⟨?_, rfl, ?_, rfl⟩
    · unfold sNight
      rw [if_pos c2]
    · unfold cNight
      rw [if_pos c2]
set_option maxRecDepth 4000 in
theorem qX8_night (n : Nat) (mi : MI) (mr : MR) (c : CT) (hR : RF mr) (hn : 186 ≤ n) (hBD : BD (mi 174) c) (x p v : Int32) : Ct KX8_night 3 0 0 [.ref 173, .int x, .int p, .int v] n mi mr (eqQ (some (.int (sNight (mi 174) x p v))) n (mNight mi x p v) mr) := by
  refine Ct.of2 [some (.ref 173), some (.int x), some (.int p), some (.int v)] (by decide +kernel) (Nat.le_of_ble_eq_true rfl) rfl ?_
  obtain ⟨⟨hN, hN6⟩, ⟨hW, hW5⟩, ⟨hL, hL5⟩, ⟨hT, hT100⟩, ⟨hS, hS5⟩, ⟨hP, hP8⟩, ⟨hBk, hB8⟩⟩ := hBD.1
  refine V_iload_n dX8_night_0 rfl ?_
  refine V_iconst (v := -1) dX8_night_1 rfl ?_
  refine V_icmp_ne (tgt := 15) dX8_night_2 (by decide) (fun c2 => ?_) (fun c2 => ?_)
  · refine V_iload_n dX8_night_15 rfl ?_
    refine V_iconst (v := 0) dX8_night_16 rfl ?_
    refine V_iconst (v := 2) dX8_night_17 rfl ?_
    refine V_callS (qX8_in _ _ _ _ _ _) dX8_night_18 mlX8_53 mtX8_in smX8_in rfl rfl (by decide) (Nat.le_of_ble_eq_true rfl) rfl rfl ?_
    rintro _ _ _ _ ⟨rfl, rfl, rfl, rfl⟩
    refine V_if_eq (tgt := 49) dX8_night_21 (by decide) (fun c21 => ?_) (fun c21 => ?_)
    · refine V_iconst (v := -1) dX8_night_49 rfl ?_
      refine V_iret dX8_night_50 rfl rfl ?_
      clear hR
      (try simp only [b01_0, b01_n] at *)
      refine ⟨?_, rfl, ?_, rfl⟩
      all_goals (simp only [sNight, mNight, noNight]; repeat' split)
      all_goals first | rfl | (exfalso; simp only [Int32.lt_iff_toInt_lt, Int32.le_iff_toInt_le, ← Int32.toInt_inj, Int32.reduceToInt] at *; omega)
    · refine V_iload_n dX8_night_24 rfl ?_
      refine V_if_le (tgt := 36) dX8_night_25 (by decide) (fun c25 => ?_) (fun c25 => ?_)
      · refine V_iload_n dX8_night_36 rfl ?_
        refine V_iconst (v := 1) dX8_night_37 rfl ?_
        refine V_icmp_ne (tgt := 51) dX8_night_38 (by decide) (fun c38 => ?_) (fun c38 => ?_)
        · refine V_aload_n dX8_night_51 rfl ?_
          refine V_getr (b := 174) 8 1 dX8_night_52 (Or.inl lkX8_9) rfl rfl ⟨by omega, by omega⟩ (hR _ _ _ rfl) ?_
          refine V_bipush (v := 15) dX8_night_55 rfl ?_
          refine V_iald (len := 938) 15 dX8_night_57 rfl ⟨by omega, by omega⟩ (by decide) (by omega) ?_
          refine V_bipush (v := 8) dX8_night_58 rfl ?_
          refine V_icmp_ne (tgt := 66) dX8_night_60 (by decide) (fun c60 => ?_) (fun c60 => ?_)
          · have h7 := hP
            unfold nat at h7
            have hlt : cP c < 8 := by
              have q := c60
              simp only [← Int32.toInt_inj, Int32.reduceToInt] at q
              omega
            have hb : mi 174 15 < 8 := by
              simp only [Int32.lt_iff_toInt_lt, Int32.reduceToInt]
              omega
            refine V_aload_n dX8_night_66 rfl ?_
            refine V_getr (b := 174) 8 1 dX8_night_67 (Or.inl lkX8_9) rfl rfl ⟨by omega, by omega⟩ (hR _ _ _ rfl) ?_
            refine V_bipush (v := 83) dX8_night_70 rfl ?_
            refine V_aload_n dX8_night_72 rfl ?_
            refine V_getr (b := 174) 8 1 dX8_night_73 (Or.inl lkX8_9) rfl rfl ⟨by omega, by omega⟩ (hR _ _ _ rfl) ?_
            refine V_bipush (v := 15) dX8_night_76 rfl ?_
            refine V_iald (len := 938) 15 dX8_night_78 rfl ⟨by omega, by omega⟩ (by decide) (by omega) ?_
            refine V_iadd dX8_night_79 ?_
            refine V_iload_n dX8_night_80 rfl ?_
            refine V_iast (len := 938) (83 + (cP c)) dX8_night_81 rfl ⟨by omega, by omega⟩ (ix_add (by decide) (by (try simp only [up2]); (repeat rw [if_neg (by omega)]); exact hP) (by omega)) (by omega) ?_
            refine V_aload_n dX8_night_82 rfl ?_
            refine V_getr (b := 174) 8 1 dX8_night_83 (Or.inl lkX8_9) rfl rfl ⟨by omega, by omega⟩ (hR _ _ _ rfl) ?_
            refine V_bipush (v := 91) dX8_night_86 rfl ?_
            refine V_aload_n dX8_night_88 rfl ?_
            refine V_getr (b := 174) 8 1 dX8_night_89 (Or.inl lkX8_9) rfl rfl ⟨by omega, by omega⟩ (hR _ _ _ rfl) ?_
            refine V_bipush (v := 15) dX8_night_92 rfl ?_
            refine V_iald (len := 938) 15 dX8_night_94 rfl ⟨by omega, by omega⟩ (by decide) (by omega) ?_
            refine V_iadd dX8_night_95 ?_
            refine V_iload_n dX8_night_96 rfl ?_
            refine V_iast (len := 938) (91 + (cP c)) dX8_night_97 rfl ⟨by omega, by omega⟩ (ix_add (by decide) (by (try simp only [up2]); (repeat rw [if_neg (by omega)]); exact hP) (by omega)) (by omega) ?_
            refine V_aload_n dX8_night_98 rfl ?_
            refine V_getr (b := 174) 8 1 dX8_night_99 (Or.inl lkX8_9) rfl rfl ⟨by omega, by omega⟩ (hR _ _ _ rfl) ?_
            refine V_bipush (v := 99) dX8_night_102 rfl ?_
            refine V_aload_n dX8_night_104 rfl ?_
            refine V_getr (b := 174) 8 1 dX8_night_105 (Or.inl lkX8_9) rfl rfl ⟨by omega, by omega⟩ (hR _ _ _ rfl) ?_
            refine V_bipush (v := 15) dX8_night_108 rfl ?_
            refine V_iald (len := 938) 15 dX8_night_110 rfl ⟨by omega, by omega⟩ (by decide) (by omega) ?_
            refine V_iadd dX8_night_111 ?_
            refine V_iload_n dX8_night_112 rfl ?_
            refine V_iast (len := 938) (99 + (cP c)) dX8_night_113 rfl ⟨by omega, by omega⟩ (ix_add (by decide) (by (try simp only [up2]); (repeat rw [if_neg (by omega)]); exact hP) (by omega)) (by omega) ?_
            refine V_aload_n dX8_night_114 rfl ?_
            refine V_getr (b := 174) 8 1 dX8_night_115 (Or.inl lkX8_9) rfl rfl ⟨by omega, by omega⟩ (hR _ _ _ rfl) ?_
            refine V_bipush (v := 15) dX8_night_118 rfl ?_
            refine V_dup2 dX8_night_120 rfl rfl ?_
            refine V_iald (len := 938) 15 dX8_night_121 rfl ⟨by omega, by omega⟩ (by decide) (by omega) ?_
            refine V_iconst (v := 1) dX8_night_122 rfl ?_
            refine V_iadd dX8_night_123 ?_
            refine V_iast (len := 938) 15 dX8_night_124 rfl ⟨by omega, by omega⟩ (by decide) (by omega) ?_
            refine V_aload_n dX8_night_125 rfl ?_
            refine V_getr (b := 174) 8 1 dX8_night_126 (Or.inl lkX8_9) rfl rfl ⟨by omega, by omega⟩ (hR _ _ _ rfl) ?_
            refine V_bipush (v := 15) dX8_night_129 rfl ?_
            refine V_iald (len := 938) 15 dX8_night_131 rfl ⟨by omega, by omega⟩ (by decide) (by omega) ?_
            refine V_iret dX8_night_132 rfl rfl ?_
            have hne : ¬ noNight (mi 174) x p v := by
              (try simp only [b01_0, b01_n] at *)
              unfold noNight
              clear hR
              intro h
              simp only [Int32.lt_iff_toInt_lt, Int32.le_iff_toInt_le, ← Int32.toInt_inj, Int32.reduceToInt] at *
              omega
            have e4 : ∀ (m : MI) (z : Int32), up2 m 174 15 z 174 15 = z := fun m z => up2_s
            have e5 : ∀ x y z, up2 (up2 (up2 mi 174 (83 + cP c) x) 174 (91 + cP c) y) 174 (99 + cP c) z 174 15 = mi 174 15 := fun x y z => by simp only [up2]; rw [if_neg (by omega), if_neg (by omega), if_neg (by omega)]
            refine ⟨?_, rfl, ?_, rfl⟩
            · rw [e4, e5]
              unfold sNight
              rw [if_neg c2, if_neg hne, if_pos hb]
            · unfold mNight
              rw [if_neg c2, if_neg hne, if_pos hb, nat_of_toInt hP, e5]
          · refine V_bipush (v := -4) dX8_night_63 rfl ?_
            refine V_iret dX8_night_65 rfl rfl ?_
            clear hR
            (try simp only [b01_0, b01_n] at *)
            refine ⟨?_, rfl, ?_, rfl⟩
            all_goals (simp only [sNight, mNight, noNight]; repeat' split)
            all_goals first | rfl | (exfalso; simp only [Int32.lt_iff_toInt_lt, Int32.le_iff_toInt_le, ← Int32.toInt_inj, Int32.reduceToInt] at *; omega)
        · refine V_aload_n dX8_night_41 rfl ?_
          refine V_iload_n dX8_night_42 rfl ?_
          refine V_callV (ci := 8) (qX8_isVintage _ _ _ hR hn _) dX8_night_43 mlX8_175 mtX8_isVintage ivX8_isVintage rfl rfl ⟨by omega, by omega⟩ (by decide) rfl rfl (by decide) (Nat.le_of_ble_eq_true rfl) rfl rfl ?_
          rintro _ _ _ _ ⟨rfl, rfl, rfl, rfl⟩
          simp only [leSub hW (by omega)]
          refine V_if_ne (tgt := 51) dX8_night_46 (by decide) (fun c46 => ?_) (fun c46 => ?_)
          · refine V_aload_n dX8_night_51 rfl ?_
            refine V_getr (b := 174) 8 1 dX8_night_52 (Or.inl lkX8_9) rfl rfl ⟨by omega, by omega⟩ (hR _ _ _ rfl) ?_
            refine V_bipush (v := 15) dX8_night_55 rfl ?_
            refine V_iald (len := 938) 15 dX8_night_57 rfl ⟨by omega, by omega⟩ (by decide) (by omega) ?_
            refine V_bipush (v := 8) dX8_night_58 rfl ?_
            refine V_icmp_ne (tgt := 66) dX8_night_60 (by decide) (fun c60 => ?_) (fun c60 => ?_)
            · have h7 := hP
              unfold nat at h7
              have hlt : cP c < 8 := by
                have q := c60
                simp only [← Int32.toInt_inj, Int32.reduceToInt] at q
                omega
              have hb : mi 174 15 < 8 := by
                simp only [Int32.lt_iff_toInt_lt, Int32.reduceToInt]
                omega
              refine V_aload_n dX8_night_66 rfl ?_
              refine V_getr (b := 174) 8 1 dX8_night_67 (Or.inl lkX8_9) rfl rfl ⟨by omega, by omega⟩ (hR _ _ _ rfl) ?_
              refine V_bipush (v := 83) dX8_night_70 rfl ?_
              refine V_aload_n dX8_night_72 rfl ?_
              refine V_getr (b := 174) 8 1 dX8_night_73 (Or.inl lkX8_9) rfl rfl ⟨by omega, by omega⟩ (hR _ _ _ rfl) ?_
              refine V_bipush (v := 15) dX8_night_76 rfl ?_
              refine V_iald (len := 938) 15 dX8_night_78 rfl ⟨by omega, by omega⟩ (by decide) (by omega) ?_
              refine V_iadd dX8_night_79 ?_
              refine V_iload_n dX8_night_80 rfl ?_
              refine V_iast (len := 938) (83 + (cP c)) dX8_night_81 rfl ⟨by omega, by omega⟩ (ix_add (by decide) (by (try simp only [up2]); (repeat rw [if_neg (by omega)]); exact hP) (by omega)) (by omega) ?_
              refine V_aload_n dX8_night_82 rfl ?_
              refine V_getr (b := 174) 8 1 dX8_night_83 (Or.inl lkX8_9) rfl rfl ⟨by omega, by omega⟩ (hR _ _ _ rfl) ?_
              refine V_bipush (v := 91) dX8_night_86 rfl ?_
              refine V_aload_n dX8_night_88 rfl ?_
              refine V_getr (b := 174) 8 1 dX8_night_89 (Or.inl lkX8_9) rfl rfl ⟨by omega, by omega⟩ (hR _ _ _ rfl) ?_
              refine V_bipush (v := 15) dX8_night_92 rfl ?_
              refine V_iald (len := 938) 15 dX8_night_94 rfl ⟨by omega, by omega⟩ (by decide) (by omega) ?_
              refine V_iadd dX8_night_95 ?_
              refine V_iload_n dX8_night_96 rfl ?_
              refine V_iast (len := 938) (91 + (cP c)) dX8_night_97 rfl ⟨by omega, by omega⟩ (ix_add (by decide) (by (try simp only [up2]); (repeat rw [if_neg (by omega)]); exact hP) (by omega)) (by omega) ?_
              refine V_aload_n dX8_night_98 rfl ?_
              refine V_getr (b := 174) 8 1 dX8_night_99 (Or.inl lkX8_9) rfl rfl ⟨by omega, by omega⟩ (hR _ _ _ rfl) ?_
              refine V_bipush (v := 99) dX8_night_102 rfl ?_
              refine V_aload_n dX8_night_104 rfl ?_
              refine V_getr (b := 174) 8 1 dX8_night_105 (Or.inl lkX8_9) rfl rfl ⟨by omega, by omega⟩ (hR _ _ _ rfl) ?_
              refine V_bipush (v := 15) dX8_night_108 rfl ?_
              refine V_iald (len := 938) 15 dX8_night_110 rfl ⟨by omega, by omega⟩ (by decide) (by omega) ?_
              refine V_iadd dX8_night_111 ?_
              refine V_iload_n dX8_night_112 rfl ?_
              refine V_iast (len := 938) (99 + (cP c)) dX8_night_113 rfl ⟨by omega, by omega⟩ (ix_add (by decide) (by (try simp only [up2]); (repeat rw [if_neg (by omega)]); exact hP) (by omega)) (by omega) ?_
              refine V_aload_n dX8_night_114 rfl ?_
              refine V_getr (b := 174) 8 1 dX8_night_115 (Or.inl lkX8_9) rfl rfl ⟨by omega, by omega⟩ (hR _ _ _ rfl) ?_
              refine V_bipush (v := 15) dX8_night_118 rfl ?_
              refine V_dup2 dX8_night_120 rfl rfl ?_
              refine V_iald (len := 938) 15 dX8_night_121 rfl ⟨by omega, by omega⟩ (by decide) (by omega) ?_
              refine V_iconst (v := 1) dX8_night_122 rfl ?_
              refine V_iadd dX8_night_123 ?_
              refine V_iast (len := 938) 15 dX8_night_124 rfl ⟨by omega, by omega⟩ (by decide) (by omega) ?_
              refine V_aload_n dX8_night_125 rfl ?_
              refine V_getr (b := 174) 8 1 dX8_night_126 (Or.inl lkX8_9) rfl rfl ⟨by omega, by omega⟩ (hR _ _ _ rfl) ?_
              refine V_bipush (v := 15) dX8_night_129 rfl ?_
              refine V_iald (len := 938) 15 dX8_night_131 rfl ⟨by omega, by omega⟩ (by decide) (by omega) ?_
              refine V_iret dX8_night_132 rfl rfl ?_
              have hne : ¬ noNight (mi 174) x p v := by
                (try simp only [b01_0, b01_n] at *)
                unfold noNight
                clear hR
                intro h
                simp only [Int32.lt_iff_toInt_lt, Int32.le_iff_toInt_le, ← Int32.toInt_inj, Int32.reduceToInt] at *
                omega
              have e4 : ∀ (m : MI) (z : Int32), up2 m 174 15 z 174 15 = z := fun m z => up2_s
              have e5 : ∀ x y z, up2 (up2 (up2 mi 174 (83 + cP c) x) 174 (91 + cP c) y) 174 (99 + cP c) z 174 15 = mi 174 15 := fun x y z => by simp only [up2]; rw [if_neg (by omega), if_neg (by omega), if_neg (by omega)]
              refine ⟨?_, rfl, ?_, rfl⟩
              · rw [e4, e5]
                unfold sNight
                rw [if_neg c2, if_neg hne, if_pos hb]
              · unfold mNight
                rw [if_neg c2, if_neg hne, if_pos hb, nat_of_toInt hP, e5]
            · refine V_bipush (v := -4) dX8_night_63 rfl ?_
              refine V_iret dX8_night_65 rfl rfl ?_
              clear hR
              (try simp only [b01_0, b01_n] at *)
              refine ⟨?_, rfl, ?_, rfl⟩
              all_goals (simp only [sNight, mNight, noNight]; repeat' split)
              all_goals first | rfl | (exfalso; simp only [Int32.lt_iff_toInt_lt, Int32.le_iff_toInt_le, ← Int32.toInt_inj, Int32.reduceToInt] at *; omega)
          · refine V_iconst (v := -1) dX8_night_49 rfl ?_
            refine V_iret dX8_night_50 rfl rfl ?_
            clear hR
            (try simp only [b01_0, b01_n] at *)
            refine ⟨?_, rfl, ?_, rfl⟩
            all_goals (simp only [sNight, mNight, noNight]; repeat' split)
            all_goals first | rfl | (exfalso; simp only [Int32.lt_iff_toInt_lt, Int32.le_iff_toInt_le, ← Int32.toInt_inj, Int32.reduceToInt] at *; omega)
      · refine V_aload_n dX8_night_28 rfl ?_
        refine V_iload_n dX8_night_29 rfl ?_
        refine V_callV (ci := 8) (qX8_isPerson _ _ _ hR hn _) dX8_night_30 mlX8_169 mtX8_isPerson ivX8_isPerson rfl rfl ⟨by omega, by omega⟩ (by decide) rfl rfl (by decide) (Nat.le_of_ble_eq_true rfl) rfl rfl ?_
        rintro _ _ _ _ ⟨rfl, rfl, rfl, rfl⟩
        simp only [leSub hN (by omega)]
        refine V_if_eq (tgt := 49) dX8_night_33 (by decide) (fun c33 => ?_) (fun c33 => ?_)
        · refine V_iconst (v := -1) dX8_night_49 rfl ?_
          refine V_iret dX8_night_50 rfl rfl ?_
          clear hR
          (try simp only [b01_0, b01_n] at *)
          refine ⟨?_, rfl, ?_, rfl⟩
          all_goals (simp only [sNight, mNight, noNight]; repeat' split)
          all_goals first | rfl | (exfalso; simp only [Int32.lt_iff_toInt_lt, Int32.le_iff_toInt_le, ← Int32.toInt_inj, Int32.reduceToInt] at *; omega)
        · refine V_iload_n dX8_night_36 rfl ?_
          refine V_iconst (v := 1) dX8_night_37 rfl ?_
          refine V_icmp_ne (tgt := 51) dX8_night_38 (by decide) (fun c38 => ?_) (fun c38 => ?_)
          · refine V_aload_n dX8_night_51 rfl ?_
            refine V_getr (b := 174) 8 1 dX8_night_52 (Or.inl lkX8_9) rfl rfl ⟨by omega, by omega⟩ (hR _ _ _ rfl) ?_
            refine V_bipush (v := 15) dX8_night_55 rfl ?_
            refine V_iald (len := 938) 15 dX8_night_57 rfl ⟨by omega, by omega⟩ (by decide) (by omega) ?_
            refine V_bipush (v := 8) dX8_night_58 rfl ?_
            refine V_icmp_ne (tgt := 66) dX8_night_60 (by decide) (fun c60 => ?_) (fun c60 => ?_)
            · have h7 := hP
              unfold nat at h7
              have hlt : cP c < 8 := by
                have q := c60
                simp only [← Int32.toInt_inj, Int32.reduceToInt] at q
                omega
              have hb : mi 174 15 < 8 := by
                simp only [Int32.lt_iff_toInt_lt, Int32.reduceToInt]
                omega
              refine V_aload_n dX8_night_66 rfl ?_
              refine V_getr (b := 174) 8 1 dX8_night_67 (Or.inl lkX8_9) rfl rfl ⟨by omega, by omega⟩ (hR _ _ _ rfl) ?_
              refine V_bipush (v := 83) dX8_night_70 rfl ?_
              refine V_aload_n dX8_night_72 rfl ?_
              refine V_getr (b := 174) 8 1 dX8_night_73 (Or.inl lkX8_9) rfl rfl ⟨by omega, by omega⟩ (hR _ _ _ rfl) ?_
              refine V_bipush (v := 15) dX8_night_76 rfl ?_
              refine V_iald (len := 938) 15 dX8_night_78 rfl ⟨by omega, by omega⟩ (by decide) (by omega) ?_
              refine V_iadd dX8_night_79 ?_
              refine V_iload_n dX8_night_80 rfl ?_
              refine V_iast (len := 938) (83 + (cP c)) dX8_night_81 rfl ⟨by omega, by omega⟩ (ix_add (by decide) (by (try simp only [up2]); (repeat rw [if_neg (by omega)]); exact hP) (by omega)) (by omega) ?_
              refine V_aload_n dX8_night_82 rfl ?_
              refine V_getr (b := 174) 8 1 dX8_night_83 (Or.inl lkX8_9) rfl rfl ⟨by omega, by omega⟩ (hR _ _ _ rfl) ?_
              refine V_bipush (v := 91) dX8_night_86 rfl ?_
              refine V_aload_n dX8_night_88 rfl ?_
              refine V_getr (b := 174) 8 1 dX8_night_89 (Or.inl lkX8_9) rfl rfl ⟨by omega, by omega⟩ (hR _ _ _ rfl) ?_
              refine V_bipush (v := 15) dX8_night_92 rfl ?_
              refine V_iald (len := 938) 15 dX8_night_94 rfl ⟨by omega, by omega⟩ (by decide) (by omega) ?_
              refine V_iadd dX8_night_95 ?_
              refine V_iload_n dX8_night_96 rfl ?_
              refine V_iast (len := 938) (91 + (cP c)) dX8_night_97 rfl ⟨by omega, by omega⟩ (ix_add (by decide) (by (try simp only [up2]); (repeat rw [if_neg (by omega)]); exact hP) (by omega)) (by omega) ?_
              refine V_aload_n dX8_night_98 rfl ?_
              refine V_getr (b := 174) 8 1 dX8_night_99 (Or.inl lkX8_9) rfl rfl ⟨by omega, by omega⟩ (hR _ _ _ rfl) ?_
              refine V_bipush (v := 99) dX8_night_102 rfl ?_
              refine V_aload_n dX8_night_104 rfl ?_
              refine V_getr (b := 174) 8 1 dX8_night_105 (Or.inl lkX8_9) rfl rfl ⟨by omega, by omega⟩ (hR _ _ _ rfl) ?_
              refine V_bipush (v := 15) dX8_night_108 rfl ?_
              refine V_iald (len := 938) 15 dX8_night_110 rfl ⟨by omega, by omega⟩ (by decide) (by omega) ?_
              refine V_iadd dX8_night_111 ?_
              refine V_iload_n dX8_night_112 rfl ?_
              refine V_iast (len := 938) (99 + (cP c)) dX8_night_113 rfl ⟨by omega, by omega⟩ (ix_add (by decide) (by (try simp only [up2]); (repeat rw [if_neg (by omega)]); exact hP) (by omega)) (by omega) ?_
              refine V_aload_n dX8_night_114 rfl ?_
              refine V_getr (b := 174) 8 1 dX8_night_115 (Or.inl lkX8_9) rfl rfl ⟨by omega, by omega⟩ (hR _ _ _ rfl) ?_
              refine V_bipush (v := 15) dX8_night_118 rfl ?_
              refine V_dup2 dX8_night_120 rfl rfl ?_
              refine V_iald (len := 938) 15 dX8_night_121 rfl ⟨by omega, by omega⟩ (by decide) (by omega) ?_
              refine V_iconst (v := 1) dX8_night_122 rfl ?_
              refine V_iadd dX8_night_123 ?_
              refine V_iast (len := 938) 15 dX8_night_124 rfl ⟨by omega, by omega⟩ (by decide) (by omega) ?_
              refine V_aload_n dX8_night_125 rfl ?_
              refine V_getr (b := 174) 8 1 dX8_night_126 (Or.inl lkX8_9) rfl rfl ⟨by omega, by omega⟩ (hR _ _ _ rfl) ?_
              refine V_bipush (v := 15) dX8_night_129 rfl ?_
              refine V_iald (len := 938) 15 dX8_night_131 rfl ⟨by omega, by omega⟩ (by decide) (by omega) ?_
              refine V_iret dX8_night_132 rfl rfl ?_
              have hne : ¬ noNight (mi 174) x p v := by
                (try simp only [b01_0, b01_n] at *)
                unfold noNight
                clear hR
                intro h
                simp only [Int32.lt_iff_toInt_lt, Int32.le_iff_toInt_le, ← Int32.toInt_inj, Int32.reduceToInt] at *
                omega
              have e4 : ∀ (m : MI) (z : Int32), up2 m 174 15 z 174 15 = z := fun m z => up2_s
              have e5 : ∀ x y z, up2 (up2 (up2 mi 174 (83 + cP c) x) 174 (91 + cP c) y) 174 (99 + cP c) z 174 15 = mi 174 15 := fun x y z => by simp only [up2]; rw [if_neg (by omega), if_neg (by omega), if_neg (by omega)]
              refine ⟨?_, rfl, ?_, rfl⟩
              · rw [e4, e5]
                unfold sNight
                rw [if_neg c2, if_neg hne, if_pos hb]
              · unfold mNight
                rw [if_neg c2, if_neg hne, if_pos hb, nat_of_toInt hP, e5]
            · refine V_bipush (v := -4) dX8_night_63 rfl ?_
              refine V_iret dX8_night_65 rfl rfl ?_
              clear hR
              (try simp only [b01_0, b01_n] at *)
              refine ⟨?_, rfl, ?_, rfl⟩
              all_goals (simp only [sNight, mNight, noNight]; repeat' split)
              all_goals first | rfl | (exfalso; simp only [Int32.lt_iff_toInt_lt, Int32.le_iff_toInt_le, ← Int32.toInt_inj, Int32.reduceToInt] at *; omega)
          · refine V_aload_n dX8_night_41 rfl ?_
            refine V_iload_n dX8_night_42 rfl ?_
            refine V_callV (ci := 8) (qX8_isVintage _ _ _ hR hn _) dX8_night_43 mlX8_175 mtX8_isVintage ivX8_isVintage rfl rfl ⟨by omega, by omega⟩ (by decide) rfl rfl (by decide) (Nat.le_of_ble_eq_true rfl) rfl rfl ?_
            rintro _ _ _ _ ⟨rfl, rfl, rfl, rfl⟩
            simp only [leSub hW (by omega)]
            refine V_if_ne (tgt := 51) dX8_night_46 (by decide) (fun c46 => ?_) (fun c46 => ?_)
            · refine V_aload_n dX8_night_51 rfl ?_
              refine V_getr (b := 174) 8 1 dX8_night_52 (Or.inl lkX8_9) rfl rfl ⟨by omega, by omega⟩ (hR _ _ _ rfl) ?_
              refine V_bipush (v := 15) dX8_night_55 rfl ?_
              refine V_iald (len := 938) 15 dX8_night_57 rfl ⟨by omega, by omega⟩ (by decide) (by omega) ?_
              refine V_bipush (v := 8) dX8_night_58 rfl ?_
              refine V_icmp_ne (tgt := 66) dX8_night_60 (by decide) (fun c60 => ?_) (fun c60 => ?_)
              · have h7 := hP
                unfold nat at h7
                have hlt : cP c < 8 := by
                  have q := c60
                  simp only [← Int32.toInt_inj, Int32.reduceToInt] at q
                  omega
                have hb : mi 174 15 < 8 := by
                  simp only [Int32.lt_iff_toInt_lt, Int32.reduceToInt]
                  omega
                refine V_aload_n dX8_night_66 rfl ?_
                refine V_getr (b := 174) 8 1 dX8_night_67 (Or.inl lkX8_9) rfl rfl ⟨by omega, by omega⟩ (hR _ _ _ rfl) ?_
                refine V_bipush (v := 83) dX8_night_70 rfl ?_
                refine V_aload_n dX8_night_72 rfl ?_
                refine V_getr (b := 174) 8 1 dX8_night_73 (Or.inl lkX8_9) rfl rfl ⟨by omega, by omega⟩ (hR _ _ _ rfl) ?_
                refine V_bipush (v := 15) dX8_night_76 rfl ?_
                refine V_iald (len := 938) 15 dX8_night_78 rfl ⟨by omega, by omega⟩ (by decide) (by omega) ?_
                refine V_iadd dX8_night_79 ?_
                refine V_iload_n dX8_night_80 rfl ?_
                refine V_iast (len := 938) (83 + (cP c)) dX8_night_81 rfl ⟨by omega, by omega⟩ (ix_add (by decide) (by (try simp only [up2]); (repeat rw [if_neg (by omega)]); exact hP) (by omega)) (by omega) ?_
                refine V_aload_n dX8_night_82 rfl ?_
                refine V_getr (b := 174) 8 1 dX8_night_83 (Or.inl lkX8_9) rfl rfl ⟨by omega, by omega⟩ (hR _ _ _ rfl) ?_
                refine V_bipush (v := 91) dX8_night_86 rfl ?_
                refine V_aload_n dX8_night_88 rfl ?_
                refine V_getr (b := 174) 8 1 dX8_night_89 (Or.inl lkX8_9) rfl rfl ⟨by omega, by omega⟩ (hR _ _ _ rfl) ?_
                refine V_bipush (v := 15) dX8_night_92 rfl ?_
                refine V_iald (len := 938) 15 dX8_night_94 rfl ⟨by omega, by omega⟩ (by decide) (by omega) ?_
                refine V_iadd dX8_night_95 ?_
                refine V_iload_n dX8_night_96 rfl ?_
                refine V_iast (len := 938) (91 + (cP c)) dX8_night_97 rfl ⟨by omega, by omega⟩ (ix_add (by decide) (by (try simp only [up2]); (repeat rw [if_neg (by omega)]); exact hP) (by omega)) (by omega) ?_
                refine V_aload_n dX8_night_98 rfl ?_
                refine V_getr (b := 174) 8 1 dX8_night_99 (Or.inl lkX8_9) rfl rfl ⟨by omega, by omega⟩ (hR _ _ _ rfl) ?_
                refine V_bipush (v := 99) dX8_night_102 rfl ?_
                refine V_aload_n dX8_night_104 rfl ?_
                refine V_getr (b := 174) 8 1 dX8_night_105 (Or.inl lkX8_9) rfl rfl ⟨by omega, by omega⟩ (hR _ _ _ rfl) ?_
                refine V_bipush (v := 15) dX8_night_108 rfl ?_
                refine V_iald (len := 938) 15 dX8_night_110 rfl ⟨by omega, by omega⟩ (by decide) (by omega) ?_
                refine V_iadd dX8_night_111 ?_
                refine V_iload_n dX8_night_112 rfl ?_
                refine V_iast (len := 938) (99 + (cP c)) dX8_night_113 rfl ⟨by omega, by omega⟩ (ix_add (by decide) (by (try simp only [up2]); (repeat rw [if_neg (by omega)]); exact hP) (by omega)) (by omega) ?_
                refine V_aload_n dX8_night_114 rfl ?_
                refine V_getr (b := 174) 8 1 dX8_night_115 (Or.inl lkX8_9) rfl rfl ⟨by omega, by omega⟩ (hR _ _ _ rfl) ?_
                refine V_bipush (v := 15) dX8_night_118 rfl ?_
                refine V_dup2 dX8_night_120 rfl rfl ?_
                refine V_iald (len := 938) 15 dX8_night_121 rfl ⟨by omega, by omega⟩ (by decide) (by omega) ?_
                refine V_iconst (v := 1) dX8_night_122 rfl ?_
                refine V_iadd dX8_night_123 ?_
                refine V_iast (len := 938) 15 dX8_night_124 rfl ⟨by omega, by omega⟩ (by decide) (by omega) ?_
                refine V_aload_n dX8_night_125 rfl ?_
                refine V_getr (b := 174) 8 1 dX8_night_126 (Or.inl lkX8_9) rfl rfl ⟨by omega, by omega⟩ (hR _ _ _ rfl) ?_
                refine V_bipush (v := 15) dX8_night_129 rfl ?_
                refine V_iald (len := 938) 15 dX8_night_131 rfl ⟨by omega, by omega⟩ (by decide) (by omega) ?_
                refine V_iret dX8_night_132 rfl rfl ?_
                have hne : ¬ noNight (mi 174) x p v := by
                  (try simp only [b01_0, b01_n] at *)
                  unfold noNight
                  clear hR
                  intro h
                  simp only [Int32.lt_iff_toInt_lt, Int32.le_iff_toInt_le, ← Int32.toInt_inj, Int32.reduceToInt] at *
                  omega
                have e4 : ∀ (m : MI) (z : Int32), up2 m 174 15 z 174 15 = z := fun m z => up2_s
                have e5 : ∀ x y z, up2 (up2 (up2 mi 174 (83 + cP c) x) 174 (91 + cP c) y) 174 (99 + cP c) z 174 15 = mi 174 15 := fun x y z => by simp only [up2]; rw [if_neg (by omega), if_neg (by omega), if_neg (by omega)]
                refine ⟨?_, rfl, ?_, rfl⟩
                · rw [e4, e5]
                  unfold sNight
                  rw [if_neg c2, if_neg hne, if_pos hb]
                · unfold mNight
                  rw [if_neg c2, if_neg hne, if_pos hb, nat_of_toInt hP, e5]
              · refine V_bipush (v := -4) dX8_night_63 rfl ?_
                refine V_iret dX8_night_65 rfl rfl ?_
                clear hR
                (try simp only [b01_0, b01_n] at *)
                refine ⟨?_, rfl, ?_, rfl⟩
                all_goals (simp only [sNight, mNight, noNight]; repeat' split)
                all_goals first | rfl | (exfalso; simp only [Int32.lt_iff_toInt_lt, Int32.le_iff_toInt_le, ← Int32.toInt_inj, Int32.reduceToInt] at *; omega)
            · refine V_iconst (v := -1) dX8_night_49 rfl ?_
              refine V_iret dX8_night_50 rfl rfl ?_
              clear hR
              (try simp only [b01_0, b01_n] at *)
              refine ⟨?_, rfl, ?_, rfl⟩
              all_goals (simp only [sNight, mNight, noNight]; repeat' split)
              all_goals first | rfl | (exfalso; simp only [Int32.lt_iff_toInt_lt, Int32.le_iff_toInt_le, ← Int32.toInt_inj, Int32.reduceToInt] at *; omega)
  · refine V_aload_n dX8_night_5 rfl ?_
    refine V_getr (b := 174) 8 1 dX8_night_6 (Or.inl lkX8_9) rfl rfl ⟨by omega, by omega⟩ (hR _ _ _ rfl) ?_
    refine V_bipush (v := 15) dX8_night_9 rfl ?_
    refine V_iconst (v := 0) dX8_night_11 rfl ?_
    refine V_iast (len := 938) 15 dX8_night_12 rfl ⟨by omega, by omega⟩ (by decide) (by omega) ?_
    refine V_iconst (v := 0) dX8_night_13 rfl ?_
    refine V_iret dX8_night_14 rfl rfl ?_
    refine ⟨?_, rfl, ?_, rfl⟩
    · unfold sNight
      rw [if_pos c2]
    · unfold mNight
      rw [if_pos c2]
