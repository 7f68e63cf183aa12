abbrev okBlend (S : Nat → Int32) (x y : Int32) : Prop := ((0 ≤ x ∧ x < S 19) ∧ 0 ≤ y ∧ y < S 19) ∧ ¬ x = y ∧ (¬ S (7 + x.toNatClampNeg) = 0 ∧ ¬ S (7 + y.toNatClampNeg) = 0) ∧ S 19 < 5
def sBlend (S : Nat → Int32) (x y : Int32) : Int32 := if (0 ≤ x ∧ x < S 19) ∧ 0 ≤ y ∧ y < S 19 then (if x = y then -2 else if ¬ S (7 + x.toNatClampNeg) = 0 ∧ ¬ S (7 + y.toNatClampNeg) = 0 then (if S 19 < 5 then S 19 else -4) else -3) else -1
def cBlend (mi : MI) (x y : Int32) : MI := if okBlend (mi 174) x y then addC (up2 (up2 mi 43 x.toNatClampNeg (mi 174 (7 + x.toNatClampNeg) - 1)) 43 y.toNatClampNeg (mi 174 (7 + y.toNatClampNeg) - 1)) (mi 174 19).toNatClampNeg ((mi 174 (68 + x.toNatClampNeg) + mi 174 (68 + y.toNatClampNeg)) / 2) 2 (mi 174 19 + 1) else mi
def mBlend (mi : MI) (x y : Int32) : MI := if okBlend (mi 174) x y then addM (up2 (up2 mi 174 (7 + x.toNatClampNeg) (mi 174 (7 + x.toNatClampNeg) - 1)) 174 (7 + y.toNatClampNeg) (mi 174 (7 + y.toNatClampNeg) - 1)) (mi 174 19).toNatClampNeg ((mi 174 (68 + x.toNatClampNeg) + mi 174 (68 + y.toNatClampNeg)) / 2) 2 (mi 174 19 + 1) else mi
theorem ne_nat {x y : Int32} {a b : Nat} (hx : x.toInt = (a : Int)) (hy : y.toInt = (b : Int)) (h : ¬ x = y) : a ≠ b := fun e => h (Int32.toInt_inj.mp (by rw [hx, hy, e]))
set_option maxRecDepth 4000 in
theorem qX7_blend (n : Nat) (mi : MI) (mr : MR) (c : CT) (I : INV n mi mr c) (x y : Int32) : Ct KX7_blend 6 0 0 [.ref 32, .int x, .int y] n mi mr (eqQ (some (.int (sBlend (mi 174) x y))) n (cBlend mi x y) mr) := by
  refine Ct.of2 [some (.ref 32), some (.int x), some (.int y)] (by decide +kernel) (Nat.le_of_ble_eq_true rfl) rfl ?_
  obtain ⟨hR, hn, ⟨⟨hN, hN6⟩, ⟨hW, hW5⟩, ⟨hL, hL5⟩, ⟨hT, hT100⟩, ⟨hS, hS5⟩, ⟨hP, hP8⟩, ⟨hBk, hB8⟩⟩, hrw⟩ := I.facts
  have hBD := I.2.2.1
  obtain ⟨⟨r1, r2, r3, r4, r5⟩, hper, hvin, htape, hseen, hnight, hbook⟩ := id hrw
  have hcN : nat (mi 40 1) (cN c) := by rw [r2]; exact hN
  have hcW : nat (mi 40 2) (cW c) := by rw [r3]; exact hW
  clear I
  refine V_aload_n dX7_blend_0 rfl ?_
  refine V_iload_n dX7_blend_1 rfl ?_
  refine V_callV (ci := 7) (qX7_isVintage _ _ _ hR hn _) dX7_blend_2 mlX7_140 mtX7_isVintage ivX7_isVintage rfl rfl ⟨by omega, by omega⟩ (by decide) rfl rfl (by decide) (Nat.le_of_ble_eq_true rfl) rfl rfl ?_
  rintro _ _ _ _ ⟨rfl, rfl, rfl, rfl⟩
  refine V_if_eq (tgt := 16) dX7_blend_5 (by decide) (fun c5 => ?_) (fun c5 => ?_)
  · refine V_iconst (v := -1) dX7_blend_16 rfl ?_
    refine V_iret dX7_blend_17 rfl rfl ?_
    clear hR
    (try simp only [b01_0, b01_n] at *)
    refine ⟨?_, rfl, ?_, rfl⟩
    all_goals (simp only [sBlend, cBlend, okBlend]; (try simp only [r2, r3]); repeat' split)
    all_goals first | rfl | (exfalso; simp only [Int32.lt_iff_toInt_lt, Int32.le_iff_toInt_le, ← Int32.toInt_inj, Int32.reduceToInt] at *; omega)
  · refine V_aload_n dX7_blend_8 rfl ?_
    refine V_iload_n dX7_blend_9 rfl ?_
    refine V_callV (ci := 7) (qX7_isVintage _ _ _ hR hn _) dX7_blend_10 mlX7_140 mtX7_isVintage ivX7_isVintage rfl rfl ⟨by omega, by omega⟩ (by decide) rfl rfl (by decide) (Nat.le_of_ble_eq_true rfl) rfl rfl ?_
    rintro _ _ _ _ ⟨rfl, rfl, rfl, rfl⟩
    refine V_if_ne (tgt := 18) dX7_blend_13 (by decide) (fun c13 => ?_) (fun c13 => ?_)
    · obtain ⟨a, ha1, ha2⟩ := idxC c5 hcW
      obtain ⟨b, hb1, hb2⟩ := idxC c13 hcW
      have hv1 := b01_n.mp c5
      have hv2 := b01_n.mp c13
      rw [r3] at hv1 hv2
      have b1 : mi 43 a = mi 174 (7 + a) := (hvin a ha2).2
      have b2 : mi 43 b = mi 174 (7 + b) := (hvin b hb2).2
      refine V_iload_n dX7_blend_18 rfl ?_
      refine V_iload_n dX7_blend_19 rfl ?_
      refine V_icmp_ne (tgt := 26) dX7_blend_20 (by decide) (fun c20 => ?_) (fun c20 => ?_)
      · refine V_aload_n dX7_blend_26 rfl ?_
        refine V_getr (b := 40) 7 1 dX7_blend_27 (Or.inl lkX7_30) rfl rfl ⟨by omega, by omega⟩ (hR _ _ _ rfl) ?_
        refine V_getr (b := 43) 6 8 dX7_blend_30 lnX7_146 rfl rfl ⟨by omega, by omega⟩ (hR _ _ _ rfl) ?_
        refine V_iload_n dX7_blend_33 rfl ?_
        refine V_iald (len := 5) a dX7_blend_34 rfl ⟨by omega, by omega⟩ ha1 (by omega) ?_
        refine V_if_eq (tgt := 50) dX7_blend_35 (by decide) (fun c35 => ?_) (fun c35 => ?_)
        · have hz : ¬ (¬ mi 174 (7 + a) = 0 ∧ ¬ mi 174 (7 + b) = 0) := by
            rw [b1] at c35
            first | exact fun h => h.1 c35 | (rw [b2] at c47; exact fun h => h.2 c47)
          refine V_bipush (v := -3) dX7_blend_50 rfl ?_
          refine V_iret dX7_blend_52 rfl rfl ?_
          refine ⟨?_, rfl, ?_, rfl⟩
          · unfold sBlend
            rw [if_pos (And.intro hv1 hv2), if_neg c20, nat_of_toInt ha1, nat_of_toInt hb1, if_neg hz]
          · unfold cBlend okBlend
            rw [if_neg (fun h => hz (by rw [← nat_of_toInt ha1, ← nat_of_toInt hb1]; exact h.2.2.1))]
        · refine V_aload_n dX7_blend_38 rfl ?_
          refine V_getr (b := 40) 7 1 dX7_blend_39 (Or.inl lkX7_30) rfl rfl ⟨by omega, by omega⟩ (hR _ _ _ rfl) ?_
          refine V_getr (b := 43) 6 8 dX7_blend_42 lnX7_146 rfl rfl ⟨by omega, by omega⟩ (hR _ _ _ rfl) ?_
          refine V_iload_n dX7_blend_45 rfl ?_
          refine V_iald (len := 5) b dX7_blend_46 rfl ⟨by omega, by omega⟩ hb1 (by omega) ?_
          refine V_if_ne (tgt := 53) dX7_blend_47 (by decide) (fun c47 => ?_) (fun c47 => ?_)
          · rw [b1] at c35
            rw [b2] at c47
            have hz := And.intro c35 c47
            refine V_aload_n dX7_blend_53 rfl ?_
            refine V_getr (b := 40) 7 1 dX7_blend_54 (Or.inl lkX7_30) rfl rfl ⟨by omega, by omega⟩ (hR _ _ _ rfl) ?_
            refine V_geti 6 2 dX7_blend_57 lnX7_98 rfl rfl ⟨by omega, by omega⟩ ?_
            refine V_iconst (v := 5) dX7_blend_60 rfl ?_
            refine V_icmp_lt (tgt := 67) dX7_blend_61 (by decide) (fun c61 => ?_) (fun c61 => ?_)
            · rw [r3] at c61
              have hlt : cW c < 5 := by
                have h7 := hW
                have q := c61
                unfold nat at h7
                simp only [Int32.lt_iff_toInt_lt, Int32.reduceToInt] at q
                omega
              refine V_aload_n dX7_blend_67 rfl ?_
              refine V_getr (b := 40) 7 1 dX7_blend_68 (Or.inl lkX7_30) rfl rfl ⟨by omega, by omega⟩ (hR _ _ _ rfl) ?_
              refine V_getr (b := 43) 6 8 dX7_blend_71 lnX7_146 rfl rfl ⟨by omega, by omega⟩ (hR _ _ _ rfl) ?_
              refine V_iload_n dX7_blend_74 rfl ?_
              refine V_dup2 dX7_blend_75 rfl rfl ?_
              refine V_iald (len := 5) a dX7_blend_76 rfl ⟨by omega, by omega⟩ ha1 (by omega) ?_
              refine V_iconst (v := 1) dX7_blend_77 rfl ?_
              refine V_isub dX7_blend_78 ?_
              refine V_iast (len := 5) a dX7_blend_79 rfl ⟨by omega, by omega⟩ ha1 (by omega) ?_
              refine V_aload_n dX7_blend_80 rfl ?_
              refine V_getr (b := 40) 7 1 dX7_blend_81 (Or.inl lkX7_30) rfl rfl ⟨by omega, by omega⟩ (hR _ _ _ rfl) ?_
              refine V_getr (b := 43) 6 8 dX7_blend_84 lnX7_146 rfl rfl ⟨by omega, by omega⟩ (hR _ _ _ rfl) ?_
              refine V_iload_n dX7_blend_87 rfl ?_
              refine V_dup2 dX7_blend_88 rfl rfl ?_
              refine V_iald (len := 5) b dX7_blend_89 rfl ⟨by omega, by omega⟩ hb1 (by omega) ?_
              refine V_iconst (v := 1) dX7_blend_90 rfl ?_
              refine V_isub dX7_blend_91 ?_
              refine V_iast (len := 5) b dX7_blend_92 rfl ⟨by omega, by omega⟩ hb1 (by omega) ?_
              refine V_aload_n dX7_blend_93 rfl ?_
              refine V_getr (b := 40) 7 1 dX7_blend_94 (Or.inl lkX7_30) rfl rfl ⟨by omega, by omega⟩ (hR _ _ _ rfl) ?_
              refine V_aload_n dX7_blend_97 rfl ?_
              refine V_getr (b := 40) 7 1 dX7_blend_98 (Or.inl lkX7_30) rfl rfl ⟨by omega, by omega⟩ (hR _ _ _ rfl) ?_
              refine V_getr (b := 42) 6 7 dX7_blend_101 lnX7_143 rfl rfl ⟨by omega, by omega⟩ (hR _ _ _ rfl) ?_
              refine V_iload_n dX7_blend_104 rfl ?_
              refine V_iald (len := 5) a dX7_blend_105 rfl ⟨by omega, by omega⟩ ha1 (by omega) ?_
              refine V_aload_n dX7_blend_106 rfl ?_
              refine V_getr (b := 40) 7 1 dX7_blend_107 (Or.inl lkX7_30) rfl rfl ⟨by omega, by omega⟩ (hR _ _ _ rfl) ?_
              refine V_getr (b := 42) 6 7 dX7_blend_110 lnX7_143 rfl rfl ⟨by omega, by omega⟩ (hR _ _ _ rfl) ?_
              refine V_iload_n dX7_blend_113 rfl ?_
              refine V_iald (len := 5) b dX7_blend_114 rfl ⟨by omega, by omega⟩ hb1 (by omega) ?_
              refine V_iadd dX7_blend_115 ?_
              refine V_iconst (v := 2) dX7_blend_116 rfl ?_
              refine V_idiv dX7_blend_117 (by decide) ?_
              refine V_iconst (v := 2) dX7_blend_118 rfl ?_
              refine V_callV (ci := 6) (qX6_addVintage _ _ _ hR hn 40 (Or.inl rfl) (cW c) (by (try simp only [up2]); (repeat rw [if_neg (by omega)]); exact hcW) hW5 hlt _ _) dX7_blend_119 mlX7_101 mtX6_addVintage ivX6_addVintage rfl rfl ⟨by omega, by omega⟩ (by decide) rfl rfl (by decide) (Nat.le_of_ble_eq_true rfl) rfl rfl ?_
              rintro _ _ _ _ ⟨rfl, rfl, rfl, rfl⟩
              refine V_iret dX7_blend_122 rfl rfl ?_
              have hab := ne_nat ha1 hb1 c20
              have e1 : up2 mi 43 a (mi 43 a - 1) 43 b = mi 43 b := by
                simp only [up2]
                rw [if_neg (by omega)]
              have e2 : ∀ m : MI, ∀ u v x y j, up2 (up2 m 43 u x) 43 v y (40 + 2) j = m 42 j := fun m u v x y j => by
                simp only [up2]
                rw [if_neg (by omega), if_neg (by omega)]
              have e3 : ∀ u v x y, up2 (up2 mi 43 u x) 43 v y 40 2 = mi 174 19 := fun u v x y => by
                rw [← r3]
                simp only [up2]
                rw [if_neg (by omega), if_neg (by omega)]
              refine ⟨?_, rfl, ?_, rfl⟩
              · rw [e3]
                unfold sBlend
                rw [if_pos (And.intro hv1 hv2), if_neg c20, nat_of_toInt ha1, nat_of_toInt hb1, if_pos hz, if_pos c61]
              · rw [e3, e1, b1, b2]
                unfold cBlend okBlend
                rw [nat_of_toInt ha1, nat_of_toInt hb1, if_pos (And.intro (And.intro hv1 hv2) (And.intro c20 (And.intro hz c61))), nat_of_toInt hW, ← (hvin a ha2).1, ← (hvin b hb2).1, ← e2 mi a b (mi 174 (7 + a) - 1) (mi 174 (7 + b) - 1) a, ← e2 mi a b (mi 174 (7 + a) - 1) (mi 174 (7 + b) - 1) b]
                rfl
            · rw [r3] at c61
              refine V_bipush (v := -4) dX7_blend_64 rfl ?_
              refine V_iret dX7_blend_66 rfl rfl ?_
              refine ⟨?_, rfl, ?_, rfl⟩
              · unfold sBlend
                rw [if_pos (And.intro hv1 hv2), if_neg c20, nat_of_toInt ha1, nat_of_toInt hb1, if_pos hz, if_neg c61]
              · unfold cBlend okBlend
                rw [if_neg (fun h => absurd h.2.2.2 c61)]
          · have hz : ¬ (¬ mi 174 (7 + a) = 0 ∧ ¬ mi 174 (7 + b) = 0) := by
              rw [b1] at c35
              first | exact fun h => h.1 c35 | (rw [b2] at c47; exact fun h => h.2 c47)
            refine V_bipush (v := -3) dX7_blend_50 rfl ?_
            refine V_iret dX7_blend_52 rfl rfl ?_
            refine ⟨?_, rfl, ?_, rfl⟩
            · unfold sBlend
              rw [if_pos (And.intro hv1 hv2), if_neg c20, nat_of_toInt ha1, nat_of_toInt hb1, if_neg hz]
            · unfold cBlend okBlend
              rw [if_neg (fun h => hz (by rw [← nat_of_toInt ha1, ← nat_of_toInt hb1]; exact h.2.2.1))]
      · refine V_bipush (v := -2) dX7_blend_23 rfl ?_
        refine V_iret dX7_blend_25 rfl rfl ?_
        refine ⟨?_, rfl, ?_, rfl⟩
        · unfold sBlend
          rw [if_pos (And.intro hv1 hv2), if_pos c20]
        · unfold cBlend okBlend
          rw [if_neg (fun h => h.2.1 c20)]
    · refine V_iconst (v := -1) dX7_blend_16 rfl ?_
      refine V_iret dX7_blend_17 rfl rfl ?_
      clear hR
      (try simp only [b01_0, b01_n] at *)
      refine ⟨?_, rfl, ?_, rfl⟩
      all_goals (simp only [sBlend, cBlend, okBlend]; (try simp only [r2, r3]); repeat' split)
      all_goals first | rfl | (exfalso; simp only [Int32.lt_iff_toInt_lt, Int32.le_iff_toInt_le, ← Int32.toInt_inj, Int32.reduceToInt] at *; omega)
set_option maxRecDepth 4000 in
theorem qX8_blend (n : Nat) (mi : MI) (mr : MR) (c : CT) (hR : RF mr) (hn : 186 ≤ n) (hBD : BD (mi 174) c) (x y : Int32) : Ct KX8_blend 6 0 0 [.ref 173, .int x, .int y] n mi mr (eqQ (some (.int (sBlend (mi 174) x y))) n (mBlend mi x y) mr) := by
  refine Ct.of2 [some (.ref 173), some (.int x), some (.int y)] (by decide +kernel) (Nat.le_of_ble_eq_true rfl) rfl ?_
  obtain ⟨⟨hN, hN6⟩, ⟨hW, hW5⟩, ⟨hL, hL5⟩, ⟨hT, hT100⟩, ⟨hS, hS5⟩, ⟨hP, hP8⟩, ⟨hBk, hB8⟩⟩ := hBD.1
  refine V_aload_n dX8_blend_0 rfl ?_
  refine V_iload_n dX8_blend_1 rfl ?_
  refine V_callV (ci := 8) (qX8_isVintage _ _ _ hR hn _) dX8_blend_2 mlX8_175 mtX8_isVintage ivX8_isVintage rfl rfl ⟨by omega, by omega⟩ (by decide) rfl rfl (by decide) (Nat.le_of_ble_eq_true rfl) rfl rfl ?_
  rintro _ _ _ _ ⟨rfl, rfl, rfl, rfl⟩
  simp only [leSub hW (by omega)]
  refine V_if_eq (tgt := 16) dX8_blend_5 (by decide) (fun c5 => ?_) (fun c5 => ?_)
  · refine V_iconst (v := -1) dX8_blend_16 rfl ?_
    refine V_iret dX8_blend_17 rfl rfl ?_
    clear hR
    (try simp only [b01_0, b01_n] at *)
    refine ⟨?_, rfl, ?_, rfl⟩
    all_goals (simp only [sBlend, mBlend, okBlend]; repeat' split)
    all_goals first | rfl | (exfalso; simp only [Int32.lt_iff_toInt_lt, Int32.le_iff_toInt_le, ← Int32.toInt_inj, Int32.reduceToInt] at *; omega)
  · refine V_aload_n dX8_blend_8 rfl ?_
    refine V_iload_n dX8_blend_9 rfl ?_
    refine V_callV (ci := 8) (qX8_isVintage _ _ _ hR hn _) dX8_blend_10 mlX8_175 mtX8_isVintage ivX8_isVintage rfl rfl ⟨by omega, by omega⟩ (by decide) rfl rfl (by decide) (Nat.le_of_ble_eq_true rfl) rfl rfl ?_
    rintro _ _ _ _ ⟨rfl, rfl, rfl, rfl⟩
    simp only [leSub hW (by omega)]
    refine V_if_ne (tgt := 18) dX8_blend_13 (by decide) (fun c13 => ?_) (fun c13 => ?_)
    · obtain ⟨a, ha1, ha2⟩ := idxC c5 hW
      obtain ⟨b, hb1, hb2⟩ := idxC c13 hW
      have hv1 := b01_n.mp c5
      have hv2 := b01_n.mp c13
      refine V_iload_n dX8_blend_18 rfl ?_
      refine V_iload_n dX8_blend_19 rfl ?_
      refine V_icmp_ne (tgt := 26) dX8_blend_20 (by decide) (fun c20 => ?_) (fun c20 => ?_)
      · refine V_aload_n dX8_blend_26 rfl ?_
        refine V_getr (b := 174) 8 1 dX8_blend_27 (Or.inl lkX8_9) rfl rfl ⟨by omega, by omega⟩ (hR _ _ _ rfl) ?_
        refine V_bipush (v := 7) dX8_blend_30 rfl ?_
        refine V_iload_n dX8_blend_32 rfl ?_
        refine V_iadd dX8_blend_33 ?_
        refine V_iald (len := 938) (7 + a) dX8_blend_34 rfl ⟨by omega, by omega⟩ (ix_add (by decide) ha1 (by omega)) (by omega) ?_
        refine V_if_eq (tgt := 50) dX8_blend_35 (by decide) (fun c35 => ?_) (fun c35 => ?_)
        · have hz : ¬ (¬ mi 174 (7 + a) = 0 ∧ ¬ mi 174 (7 + b) = 0) := by
            first | exact fun h => h.1 c35 | exact fun h => h.2 c47
          refine V_bipush (v := -3) dX8_blend_50 rfl ?_
          refine V_iret dX8_blend_52 rfl rfl ?_
          refine ⟨?_, rfl, ?_, rfl⟩
          · unfold sBlend
            rw [if_pos (And.intro hv1 hv2), if_neg c20, nat_of_toInt ha1, nat_of_toInt hb1, if_neg hz]
          · unfold mBlend okBlend
            rw [if_neg (fun h => hz (by rw [← nat_of_toInt ha1, ← nat_of_toInt hb1]; exact h.2.2.1))]
        · refine V_aload_n dX8_blend_38 rfl ?_
          refine V_getr (b := 174) 8 1 dX8_blend_39 (Or.inl lkX8_9) rfl rfl ⟨by omega, by omega⟩ (hR _ _ _ rfl) ?_
          refine V_bipush (v := 7) dX8_blend_42 rfl ?_
          refine V_iload_n dX8_blend_44 rfl ?_
          refine V_iadd dX8_blend_45 ?_
          refine V_iald (len := 938) (7 + b) dX8_blend_46 rfl ⟨by omega, by omega⟩ (ix_add (by decide) hb1 (by omega)) (by omega) ?_
          refine V_if_ne (tgt := 53) dX8_blend_47 (by decide) (fun c47 => ?_) (fun c47 => ?_)
          · have hz := And.intro c35 c47
            refine V_aload_n dX8_blend_53 rfl ?_
            refine V_getr (b := 174) 8 1 dX8_blend_54 (Or.inl lkX8_9) rfl rfl ⟨by omega, by omega⟩ (hR _ _ _ rfl) ?_
            refine V_bipush (v := 19) dX8_blend_57 rfl ?_
            refine V_iald (len := 938) 19 dX8_blend_59 rfl ⟨by omega, by omega⟩ (by decide) (by omega) ?_
            refine V_iconst (v := 5) dX8_blend_60 rfl ?_
            refine V_icmp_ne (tgt := 67) dX8_blend_61 (by decide) (fun c61 => ?_) (fun c61 => ?_)
            · have hlt : cW c < 5 := by
                have h7 := hW
                have q := c61
                unfold nat at h7
                simp only [← Int32.toInt_inj, Int32.reduceToInt] at q
                omega
              have c61b : mi 174 19 < 5 := by
                have h7 := hW
                unfold nat at h7
                simp only [Int32.lt_iff_toInt_lt, Int32.reduceToInt]
                omega
              refine V_aload_n dX8_blend_67 rfl ?_
              refine V_getr (b := 174) 8 1 dX8_blend_68 (Or.inl lkX8_9) rfl rfl ⟨by omega, by omega⟩ (hR _ _ _ rfl) ?_
              refine V_bipush (v := 7) dX8_blend_71 rfl ?_
              refine V_iload_n dX8_blend_73 rfl ?_
              refine V_iadd dX8_blend_74 ?_
              refine V_dup2 dX8_blend_75 rfl rfl ?_
              refine V_iald (len := 938) (7 + a) dX8_blend_76 rfl ⟨by omega, by omega⟩ (ix_add (by decide) ha1 (by omega)) (by omega) ?_
              refine V_iconst (v := 1) dX8_blend_77 rfl ?_
              refine V_isub dX8_blend_78 ?_
              refine V_iast (len := 938) (7 + a) dX8_blend_79 rfl ⟨by omega, by omega⟩ (ix_add (by decide) ha1 (by omega)) (by omega) ?_
              refine V_aload_n dX8_blend_80 rfl ?_
              refine V_getr (b := 174) 8 1 dX8_blend_81 (Or.inl lkX8_9) rfl rfl ⟨by omega, by omega⟩ (hR _ _ _ rfl) ?_
              refine V_bipush (v := 7) dX8_blend_84 rfl ?_
              refine V_iload_n dX8_blend_86 rfl ?_
              refine V_iadd dX8_blend_87 ?_
              refine V_dup2 dX8_blend_88 rfl rfl ?_
              refine V_iald (len := 938) (7 + b) dX8_blend_89 rfl ⟨by omega, by omega⟩ (ix_add (by decide) hb1 (by omega)) (by omega) ?_
              refine V_iconst (v := 1) dX8_blend_90 rfl ?_
              refine V_isub dX8_blend_91 ?_
              refine V_iast (len := 938) (7 + b) dX8_blend_92 rfl ⟨by omega, by omega⟩ (ix_add (by decide) hb1 (by omega)) (by omega) ?_
              refine V_aload_n dX8_blend_93 rfl ?_
              refine V_aload_n dX8_blend_94 rfl ?_
              refine V_getr (b := 174) 8 1 dX8_blend_95 (Or.inl lkX8_9) rfl rfl ⟨by omega, by omega⟩ (hR _ _ _ rfl) ?_
              refine V_bipush (v := 68) dX8_blend_98 rfl ?_
              refine V_iload_n dX8_blend_100 rfl ?_
              refine V_iadd dX8_blend_101 ?_
              refine V_iald (len := 938) (68 + a) dX8_blend_102 rfl ⟨by omega, by omega⟩ (ix_add (by decide) ha1 (by omega)) (by omega) ?_
              refine V_aload_n dX8_blend_103 rfl ?_
              refine V_getr (b := 174) 8 1 dX8_blend_104 (Or.inl lkX8_9) rfl rfl ⟨by omega, by omega⟩ (hR _ _ _ rfl) ?_
              refine V_bipush (v := 68) dX8_blend_107 rfl ?_
              refine V_iload_n dX8_blend_109 rfl ?_
              refine V_iadd dX8_blend_110 ?_
              refine V_iald (len := 938) (68 + b) dX8_blend_111 rfl ⟨by omega, by omega⟩ (ix_add (by decide) hb1 (by omega)) (by omega) ?_
              refine V_iadd dX8_blend_112 ?_
              refine V_iconst (v := 2) dX8_blend_113 rfl ?_
              refine V_idiv dX8_blend_114 (by decide) ?_
              refine V_iconst (v := 2) dX8_blend_115 rfl ?_
              refine V_callV (ci := 8) (qX8_newVintage _ _ _ hR hn (cW c) (by (try simp only [up2]); (repeat rw [if_neg (by omega)]); exact hW) hW5 hlt _ _) dX8_blend_116 mlX8_166 mtX8_newVintage ivX8_newVintage rfl rfl ⟨by omega, by omega⟩ (by decide) rfl rfl (by decide) (Nat.le_of_ble_eq_true rfl) rfl rfl ?_
              rintro _ _ _ _ ⟨rfl, rfl, rfl, rfl⟩
              refine V_iret dX8_blend_119 rfl rfl ?_
              have hab := ne_nat ha1 hb1 c20
              have e1 : up2 mi 174 (7 + a) (mi 174 (7 + a) - 1) 174 (7 + b) = mi 174 (7 + b) := by
                simp only [up2]
                rw [if_neg (by omega)]
              have e3 : ∀ x y j, 11 < j → up2 (up2 mi 174 (7 + a) x) 174 (7 + b) y 174 j = mi 174 j := fun x y j hj => by
                simp only [up2]
                rw [if_neg (by omega), if_neg (by omega)]
              refine ⟨?_, rfl, ?_, rfl⟩
              · rw [e3 _ _ _ (by omega)]
                unfold sBlend
                rw [if_pos (And.intro hv1 hv2), if_neg c20, nat_of_toInt ha1, nat_of_toInt hb1, if_pos hz, if_pos c61b]
              · rw [e3 _ _ 19 (by omega), e3 _ _ (68 + a) (by omega), e3 _ _ (68 + b) (by omega), e1]
                unfold mBlend okBlend
                rw [nat_of_toInt ha1, nat_of_toInt hb1, if_pos (And.intro (And.intro hv1 hv2) (And.intro c20 (And.intro hz c61b))), nat_of_toInt hW]
                rfl
            · have c61b : ¬ mi 174 19 < 5 := by rw [c61]; decide
              refine V_bipush (v := -4) dX8_blend_64 rfl ?_
              refine V_iret dX8_blend_66 rfl rfl ?_
              refine ⟨?_, rfl, ?_, rfl⟩
              · unfold sBlend
                rw [if_pos (And.intro hv1 hv2), if_neg c20, nat_of_toInt ha1, nat_of_toInt hb1, if_pos hz, if_neg c61b]
              · unfold mBlend okBlend
                rw [if_neg (fun h => absurd h.2.2.2 c61b)]
          · have hz : ¬ (¬ mi 174 (7 + a) = 0 ∧ ¬ mi 174 (7 + b) = 0) := by
              first | exact fun h => h.1 c35 | exact fun h => h.2 c47
            refine V_bipush (v := -3) dX8_blend_50 rfl ?_
            refine V_iret dX8_blend_52 rfl rfl ?_
            refine ⟨?_, rfl, ?_, rfl⟩
            · unfold sBlend
              rw [if_pos (And.intro hv1 hv2), if_neg c20, nat_of_toInt ha1, nat_of_toInt hb1, if_neg hz]
            · unfold mBlend okBlend
              rw [if_neg (fun h => hz (by rw [← nat_of_toInt ha1, ← nat_of_toInt hb1]; exact h.2.2.1))]
      · refine V_bipush (v := -2) dX8_blend_23 rfl ?_
        refine V_iret dX8_blend_25 rfl rfl ?_
        refine ⟨?_, rfl, ?_, rfl⟩
        · unfold sBlend
          rw [if_pos (And.intro hv1 hv2), if_pos c20]
        · unfold mBlend okBlend
          rw [if_neg (fun h => h.2.1 c20)]
    · refine V_iconst (v := -1) dX8_blend_16 rfl ?_
      refine V_iret dX8_blend_17 rfl rfl ?_
      clear hR
      (try simp only [b01_0, b01_n] at *)
      refine ⟨?_, rfl, ?_, rfl⟩
      all_goals (simp only [sBlend, mBlend, okBlend]; repeat' split)
      all_goals first | rfl | (exfalso; simp only [Int32.lt_iff_toInt_lt, Int32.le_iff_toInt_le, ← Int32.toInt_inj, Int32.reduceToInt] at *; omega)
