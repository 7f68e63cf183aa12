def pick (a b c d e g : Bool) : Nat → Bool := fun k => match k with
  | 0 => a
  | 1 => b
  | 2 => c
  | 3 => d
  | 4 => e
  | _ => g
abbrev pk (f : Nat → Bool) : Nat → Bool := pick (f 0) (f 1) (f 2) (f 3) (f 4) (f 5)
theorem pk_at {f : Nat → Bool} {p : Nat} (h : p < 6) : f p = pk f p := by
  match p, h with
  | 0, _ => rfl
  | 1, _ => rfl
  | 2, _ => rfl
  | 3, _ => rfl
  | 4, _ => rfl
  | 5, _ => rfl
theorem bits_pk {f : Nat → Bool} {N : Nat} (h : N ≤ 6) : bitsTo f N = bitsTo (pk f) N := bitsTo_eq (fun p hp => pk_at (by omega))
/-- how many -/
def cntB (f : Nat → Bool) : Nat → Nat
  | 0 => 0
  | k + 1 => if f k = true then cntB f k + 1 else cntB f k
theorem cntB_eq {f g : Nat → Bool} : ∀ {N : Nat}, (∀ p, p < N → f p = g p) → cntB f N = cntB g N
  | 0, _ => rfl
  | N + 1, h => by
    unfold cntB
    rw [h N (by omega), cntB_eq (fun p hp => h p (by omega))]
theorem cntB_le {f : Nat → Bool} : ∀ {N : Nat}, cntB f N ≤ N
  | 0 => Nat.le_refl _
  | N + 1 => by
    unfold cntB
    have := cntB_le (f := f) (N := N)
    split <;> omega
theorem bit_dec : ∀ (a b c d e g : Bool) (N : Fin 7) (p : Fin 6), p.1 < N.1 → (bitsTo (pick a b c d e g) N.1 >>> (nI p.1 &&& 31)) &&& 1 = if pick a b c d e g p.1 = true then 1 else 0 := by decide +kernel
theorem cnt_dec : ∀ (a b c d e g : Bool) (N : Fin 7), bitCnt (bitsTo (pick a b c d e g) N.1) 6 = nI (cntB (pick a b c d e g) N.1) := by decide +kernel
theorem zero_dec : ∀ (a b c d e g : Bool) (N : Fin 7), (bitsTo (pick a b c d e g) N.1 = 0 ↔ cntB (pick a b c d e g) N.1 = 0) := by decide +kernel
theorem bits_dec : ∀ (a b c d e g : Bool) (N : Fin 7), bitsTo (pick a b c d e g) N.1 = nI (bitsTo (pick a b c d e g) N.1).toNatClampNeg ∧ (bitsTo (pick a b c d e g) N.1).toNatClampNeg < 64 := by decide +kernel
theorem bits_bit {f : Nat → Bool} {N p : Nat} (h : N ≤ 6) (hp : p < N) : (bitsTo f N >>> (nI p &&& 31)) &&& 1 = if f p = true then 1 else 0 := by
  rw [bits_pk h, pk_at (f := f) (p := p) (by omega)]
  exact bit_dec _ _ _ _ _ _ ⟨N, by omega⟩ ⟨p, by omega⟩ hp
theorem bits_cnt {f : Nat → Bool} {N : Nat} (h : N ≤ 6) : bitCnt (bitsTo f N) 6 = nI (cntB f N) := by
  rw [bits_pk h, cntB_eq (f := f) (g := pk f) (fun p hp => pk_at (by omega))]
  exact cnt_dec _ _ _ _ _ _ ⟨N, by omega⟩
theorem bits_zero {f : Nat → Bool} {N : Nat} (h : N ≤ 6) : bitsTo f N = 0 ↔ cntB f N = 0 := by
  rw [bits_pk h, cntB_eq (f := f) (g := pk f) (fun p hp => pk_at (by omega))]
  exact zero_dec _ _ _ _ _ _ ⟨N, by omega⟩
theorem bits_nat {f : Nat → Bool} {N : Nat} (h : N ≤ 6) : ∃ k : Fin 64, bitsTo f N = nI k.1 := by
  rw [bits_pk h]
  have q := bits_dec (f 0) (f 1) (f 2) (f 3) (f 4) (f 5) ⟨N, by omega⟩
  exact ⟨⟨_, q.2⟩, q.1⟩
theorem and_1 {x y : Int32} : x &&& y &&& 1 = (x &&& 1) &&& (y &&& 1) := by
  rw [Int32.and_assoc, Int32.and_assoc, Int32.and_comm 1 (y &&& 1), Int32.and_assoc, Int32.and_self]
theorem two_bits {f : Nat → Bool} {N p q : Nat} (h : N ≤ 6) (hp : p < N) (hq : q < N) : (bitsTo f N >>> (nI p &&& 31)) &&& (bitsTo f N >>> (nI q &&& 31)) &&& 1 = 1 ↔ (f p = true ∧ f q = true) := by
  rw [and_1, bits_bit h hp, bits_bit h hq]
  cases f p <;> cases f q <;> decide
abbrev twoOK (S : Nat → Int32) (i : Nat) : Nat → Bool := fun j => decide (sHere S i = true ∧ sHere S (i + 1 + j) = true)
abbrev twoOff (S : Nat → Int32) (i : Nat) : Nat → Int32 := fun j => apartF (sAge S i (S (1 + i))) (sAge S (i + 1 + j) (S (1 + (i + 1 + j))))
abbrev twoTag (i : Nat) : Nat → Int32 := fun j => 10 * nI i + nI (i + 1 + j)
/-- the nearest two of whom the lesser is below i -/
def twoTo (S : Nat → Int32) (N : Nat) (F : Int32) : Nat → Int32 × Int32
  | 0 => (-5, F)
  | i + 1 => amin (twoOK S i) (twoOff S i) (twoTag i) (twoTo S N F i) (N - (i + 1))
def sTwo (S : Nat → Int32) (N : Nat) (F : Int32) : Int32 := (twoTo S N F N).1
theorem two_R {S : Nat → Int32} {c : CT} (hB : BD S c) : ∀ {i : Nat}, i ≤ cN c → amR (twoTo S (cN c) 1000000 i) (twoTo S (cN c) 100000000 i)
  | 0, _ => Or.inl ⟨rfl, rfl⟩
  | i + 1, h => amin_R (two_R hB (i := i) (by omega)) (fun j hj _ => apart_bd (sAge_bd hB (by omega) (hB.2.2.2.1 i (by omega)).2.2.2.2.1) (sAge_bd hB (by omega) (hB.2.2.2.1 (i + 1 + j) (by omega)).2.2.2.2.1))
theorem two_eq {S : Nat → Int32} {c : CT} (hB : BD S c) : sTwo S (cN c) 1000000 = sTwo S (cN c) 100000000 := by
  unfold sTwo
  rcases two_R hB (i := cN c) (Nat.le_refl _) with ⟨e1, e2⟩ | e
  · rw [e1, e2]
  · rw [e]
theorem two_le {S : Nat → Int32} {N : Nat} {F : Int32} : ∀ {i : Nat}, (twoTo S N F i).2 ≤ F
  | 0 => Int32.le_refl _
  | i + 1 => amin_le two_le
set_option maxRecDepth 4000 in
theorem qX7_two (n : Nat) (mi : MI) (mr : MR) (c : CT) (I : INV n mi mr c)  : Ct KX7_two 7 0 0 [.ref 32] n mi mr (eqQ (some (.int (sTwo (mi 174) (cN c) 1000000))) n (mi) mr) := by
  refine Ct.of2 [some (.ref 32), none, none, none, none, none, none] (by decide +kernel) (Nat.le_of_ble_eq_true rfl) rfl ?_
  have hhv := I.hv
  have hcl := I.cl.1
  obtain ⟨hR, hn, ⟨⟨hN, hN6⟩, ⟨hW, hW5⟩, ⟨hL, hL5⟩, ⟨hT, hT100⟩, ⟨hS, hS5⟩, ⟨hP, hP8⟩, ⟨hBk, hB8⟩⟩, hrw⟩ := I.facts
  have hBD := I.2.2.1
  obtain ⟨⟨r1, r2, r3, r4, r5⟩, hper, hvin, htape, hseen, hnight, hbook⟩ := id hrw
  have hcN : nat (mi 40 1) (cN c) := by rw [r2]; exact hN
  have hcW : nat (mi 40 2) (cW c) := by rw [r3]; exact hW
  clear I
  refine V_aload_n dX7_two_0 rfl ?_
  refine V_getr (b := 40) 7 1 dX7_two_1 (Or.inl lkX7_30) rfl rfl ⟨by omega, by omega⟩ (hR _ _ _ rfl) ?_
  refine V_callV (ci := 6) (qX6_whoIsHere _ _ _ hR hn _ (Or.inl rfl) (hvOf (mi 174)) hcl hBD.isV (cN c) hcN hN6 (fun p hp => by rw [(hrw.hasP hp).2.2.1]; exact (hBD.2.2.2.1 p hp).2.2.2.2.1.ok hW5)) dX7_two_4 mlX7_158 mtX6_whoIsHere ivX6_whoIsHere rfl rfl ⟨by omega, by omega⟩ (by decide) rfl rfl (by decide) (Nat.le_of_ble_eq_true rfl) rfl rfl ?_
  rintro _ _ _ _ ⟨rfl, rfl, rfl, rfl⟩
  rw [bitsTo_eq (fun p hp => here_eq hBD hrw hp hhv)]
  refine V_istore_n (L' := [_, _, _, _, _, _, _]) dX7_two_7 (by decide) rfl rfl ?_
  refine V_bipush (v := -5) dX7_two_8 rfl ?_
  refine V_istore_n (L' := [_, _, _, _, _, _, _]) dX7_two_10 (by decide) rfl rfl ?_
  refine V_ldc dX7_two_11 kX7_182 ?_
  refine V_istore_n (L' := [_, _, _, _, _, _, _]) dX7_two_13 (by decide) rfl rfl ?_
  refine V_iconst (v := 0) dX7_two_14 rfl ?_
  refine V_istore (L' := [_, _, _, _, _, _, _]) dX7_two_15 (by decide) rfl rfl ?_
  have loop : ∀ (m i : Nat) (nr lt x : Int32) (z z2 : Option Value), i + m = cN c → x.toInt = (i : Int) → twoTo (mi 174) (cN c) 1000000 i = (nr, lt) → V KX7_two 7 0 0 (eqQ (some (.int (sTwo (mi 174) (cN c) 1000000))) n (mi) mr) 17 [some (.ref 32), some (.int (bitsTo (sHere (mi 174)) (cN c))), some (.int nr), some (.int lt), some (.int x), z, z2] [] n mi mr := by
    intro m
    induction m with
    | zero =>
      intro i A B x z z2 him hx ha
      refine V_iload dX7_two_17 rfl ?_
      refine V_aload_n dX7_two_19 rfl ?_
      refine V_getr (b := 40) 7 1 dX7_two_20 (Or.inl lkX7_30) rfl rfl ⟨by omega, by omega⟩ (hR _ _ _ rfl) ?_
      refine V_geti 6 1 dX7_two_23 lnX7_82 rfl rfl ⟨by omega, by omega⟩ ?_
      refine V_icmp_ge (tgt := 142) dX7_two_26 (by decide) (fun c26 => ?_) (fun c26 => absurd ((le_nat hcN hx).mpr (by omega)) c26)
      have hi : i = cN c := by omega
      subst hi
      refine V_iload_n dX7_two_142 rfl ?_
      refine V_iret dX7_two_143 rfl rfl ?_
      refine ⟨?_, rfl, rfl, rfl⟩
      unfold sTwo
      rw [ha]
    | succ m ih =>
      intro i A B x z z2 him hx ha
      refine V_iload dX7_two_17 rfl ?_
      refine V_aload_n dX7_two_19 rfl ?_
      refine V_getr (b := 40) 7 1 dX7_two_20 (Or.inl lkX7_30) rfl rfl ⟨by omega, by omega⟩ (hR _ _ _ rfl) ?_
      refine V_geti 6 1 dX7_two_23 lnX7_82 rfl rfl ⟨by omega, by omega⟩ ?_
      refine V_icmp_ge (tgt := 142) dX7_two_26 (by decide) (fun c26 => absurd ((le_nat hcN hx).mp c26) (by omega)) (fun c26 => ?_)
      refine V_iload dX7_two_29 rfl ?_
      refine V_iconst (v := 1) dX7_two_31 rfl ?_
      refine V_iadd dX7_two_32 ?_
      refine V_istore (L' := [_, _, _, _, _, _, _]) dX7_two_33 (by decide) rfl rfl ?_
      have loop2 : ∀ (m j : Nat) (nr lt y : Int32) (z : Option Value), i + 1 + j + m = cN c → y.toInt = ((i + 1 + j : Nat) : Int) → amin (twoOK (mi 174) i) (twoOff (mi 174) i) (twoTag i) (A, B) j = (nr, lt) → V KX7_two 7 0 0 (eqQ (some (.int (sTwo (mi 174) (cN c) 1000000))) n (mi) mr) 35 [some (.ref 32), some (.int (bitsTo (sHere (mi 174)) (cN c))), some (.int nr), some (.int lt), some (.int x), some (.int y), z] [] n mi mr := by
        intro m
        induction m with
        | zero =>
          intro j nr lt y z hjm hy hb
          refine V_iload dX7_two_35 rfl ?_
          refine V_aload_n dX7_two_37 rfl ?_
          refine V_getr (b := 40) 7 1 dX7_two_38 (Or.inl lkX7_30) rfl rfl ⟨by omega, by omega⟩ (hR _ _ _ rfl) ?_
          refine V_geti 6 1 dX7_two_41 lnX7_82 rfl rfl ⟨by omega, by omega⟩ ?_
          refine V_icmp_ge (tgt := 136) dX7_two_44 (by decide) (fun c44 => ?_) (fun c44 => absurd ((le_nat hcN hy).mpr (by omega)) c44)
          refine V_iinc (v := _ + (1)) (L' := [_, _, _, _, _, _, _]) dX7_two_136 (by decide) rfl rfl rfl rfl ?_
          refine V_goto (tgt := 17) dX7_two_139 (by decide) ?_
          have hj9 : j = cN c - (i + 1) := by omega
          subst hj9
          exact ih (i + 1) _ _ _ _ _ (by omega) (ix_add hx (by decide) (by omega)) (by rw [twoTo, ha]; exact hb)
        | succ m ih =>
          intro j nr lt y z hjm hy hb
          refine V_iload dX7_two_35 rfl ?_
          refine V_aload_n dX7_two_37 rfl ?_
          refine V_getr (b := 40) 7 1 dX7_two_38 (Or.inl lkX7_30) rfl rfl ⟨by omega, by omega⟩ (hR _ _ _ rfl) ?_
          refine V_geti 6 1 dX7_two_41 lnX7_82 rfl rfl ⟨by omega, by omega⟩ ?_
          refine V_icmp_ge (tgt := 136) dX7_two_44 (by decide) (fun c44 => absurd ((le_nat hcN hy).mp c44) (by omega)) (fun c44 => ?_)
          have hi2 : i < cN c := by omega
          have hj2 : i + 1 + j < cN c := by omega
          have u3 := (hrw.hasP hi2).2.2.1
          have v3 := (hrw.hasP hj2).2.2.1
          rw [show (40 + 18 : Nat) = 58 from rfl] at u3 v3
          have hbb := two_bits (f := sHere (mi 174)) hN6 hi2 hj2
          rw [← nI_of_toInt hx, ← nI_of_toInt hy] at hbb
          have hui := (hBD.2.2.2.1 i hi2).2.2.2.2.1
          have hvi := (hBD.2.2.2.1 (i + 1 + j) hj2).2.2.2.2.1
          refine V_aload_n dX7_two_47 rfl ?_
          refine V_getr (b := 40) 7 1 dX7_two_48 (Or.inl lkX7_30) rfl rfl ⟨by omega, by omega⟩ (hR _ _ _ rfl) ?_
          refine V_iload dX7_two_51 rfl ?_
          refine V_aload_n dX7_two_53 rfl ?_
          refine V_getr (b := 40) 7 1 dX7_two_54 (Or.inl lkX7_30) rfl rfl ⟨by omega, by omega⟩ (hR _ _ _ rfl) ?_
          refine V_getr (b := 41) 6 6 dX7_two_57 lnX7_85 rfl rfl ⟨by omega, by omega⟩ (hR _ _ _ rfl) ?_
          refine V_iload dX7_two_60 rfl ?_
          refine V_aald (len := 6) (b := (58 + 2 * i)) 5 i dX7_two_62 rfl rfl ⟨by omega, by omega⟩ hx (by omega) (hR _ _ _ (rFolk (Or.inl rfl) (by omega))) ?_
          refine V_geti 1 5 dX7_two_63 lnX7_120 rfl (sP (pOf (Or.inl rfl) (by omega))) ⟨by omega, by omega⟩ ?_
          refine V_callV (ci := 6) (qX6_ageBy _ _ _ hR hn _ (Or.inl rfl) _ _ i hx (by omega) (by rw [u3]; exact hui.ok hW5)) dX7_two_66 mlX7_127 mtX6_ageBy ivX6_ageBy rfl rfl ⟨by omega, by omega⟩ (by decide) rfl rfl (by decide) (Nat.le_of_ble_eq_true rfl) rfl rfl ?_
          rintro _ _ _ _ ⟨rfl, rfl, rfl, rfl⟩
          rw [u3, age_eq hBD hrw hi2 hui]
          refine V_aload_n dX7_two_69 rfl ?_
          refine V_getr (b := 40) 7 1 dX7_two_70 (Or.inl lkX7_30) rfl rfl ⟨by omega, by omega⟩ (hR _ _ _ rfl) ?_
          refine V_iload dX7_two_73 rfl ?_
          refine V_aload_n dX7_two_75 rfl ?_
          refine V_getr (b := 40) 7 1 dX7_two_76 (Or.inl lkX7_30) rfl rfl ⟨by omega, by omega⟩ (hR _ _ _ rfl) ?_
          refine V_getr (b := 41) 6 6 dX7_two_79 lnX7_85 rfl rfl ⟨by omega, by omega⟩ (hR _ _ _ rfl) ?_
          refine V_iload dX7_two_82 rfl ?_
          refine V_aald (len := 6) (b := (58 + 2 * (i + 1 + j))) 5 (i + 1 + j) dX7_two_84 rfl rfl ⟨by omega, by omega⟩ hy (by omega) (hR _ _ _ (rFolk (Or.inl rfl) (by omega))) ?_
          refine V_geti 1 5 dX7_two_85 lnX7_120 rfl (sP (pOf (Or.inl rfl) (by omega))) ⟨by omega, by omega⟩ ?_
          refine V_callV (ci := 6) (qX6_ageBy _ _ _ hR hn _ (Or.inl rfl) _ _ (i + 1 + j) hy (by omega) (by rw [v3]; exact hvi.ok hW5)) dX7_two_88 mlX7_127 mtX6_ageBy ivX6_ageBy rfl rfl ⟨by omega, by omega⟩ (by decide) rfl rfl (by decide) (Nat.le_of_ble_eq_true rfl) rfl rfl ?_
          rintro _ _ _ _ ⟨rfl, rfl, rfl, rfl⟩
          rw [v3, age_eq hBD hrw hj2 hvi]
          refine V_isub dX7_two_91 ?_
          refine V_abs dX7_two_92 mlX7_183 sm_abs iniJ9 cm_abs (by decide) (Nat.le_of_ble_eq_true rfl) ?_
          rw [apart_abs (sAge_bd hBD hi2 hui) (sAge_bd hBD hj2 hvi)]
          refine V_istore (L' := [_, _, _, _, _, _, _]) dX7_two_95 (by decide) rfl rfl ?_
          refine V_iload_n dX7_two_97 rfl ?_
          refine V_iload dX7_two_98 rfl ?_
          refine V_ishr dX7_two_100 ?_
          refine V_iload_n dX7_two_101 rfl ?_
          refine V_iload dX7_two_102 rfl ?_
          refine V_ishr dX7_two_104 ?_
          refine V_iand dX7_two_105 ?_
          refine V_iconst (v := 1) dX7_two_106 rfl ?_
          refine V_iand dX7_two_107 ?_
          refine V_iconst (v := 1) dX7_two_108 rfl ?_
          refine V_icmp_ne (tgt := 130) dX7_two_109 (by decide) (fun c109 => ?_) (fun c109 => ?_)
          · refine V_iinc (v := _ + (1)) (L' := [_, _, _, _, _, _, _]) dX7_two_130 (by decide) rfl rfl rfl rfl ?_
            refine V_goto (tgt := 35) dX7_two_133 (by decide) ?_
            refine ih (j + 1) _ _ _ _ (by omega) (ix_add (a := i + 1 + j) (b := 1) hy (by decide) (by omega)) ?_
            unfold amin
            rw [hb]
            by_cases hq : twoOK (mi 174) i j = true ∧ twoOff (mi 174) i j < lt
            · first
              | (rw [if_pos hq, nI_of_toInt hx, nI_of_toInt hy]; done)
              | exact absurd (hbb.mpr (of_decide_eq_true hq.1)) c109
              | exact absurd hq.2 (Int32.not_lt.mpr c115)
            · first
              | (rw [if_neg hq]; done)
              | exact absurd (And.intro (decide_eq_true (hbb.mp c109)) (Int32.not_le.mp c115)) hq
          · refine V_iload dX7_two_112 rfl ?_
            refine V_iload_n dX7_two_114 rfl ?_
            refine V_icmp_ge (tgt := 130) dX7_two_115 (by decide) (fun c115 => ?_) (fun c115 => ?_)
            · refine V_iinc (v := _ + (1)) (L' := [_, _, _, _, _, _, _]) dX7_two_130 (by decide) rfl rfl rfl rfl ?_
              refine V_goto (tgt := 35) dX7_two_133 (by decide) ?_
              refine ih (j + 1) _ _ _ _ (by omega) (ix_add (a := i + 1 + j) (b := 1) hy (by decide) (by omega)) ?_
              unfold amin
              rw [hb]
              by_cases hq : twoOK (mi 174) i j = true ∧ twoOff (mi 174) i j < lt
              · first
                | (rw [if_pos hq, nI_of_toInt hx, nI_of_toInt hy]; done)
                | exact absurd (hbb.mpr (of_decide_eq_true hq.1)) c109
                | exact absurd hq.2 (Int32.not_lt.mpr c115)
              · first
                | (rw [if_neg hq]; done)
                | exact absurd (And.intro (decide_eq_true (hbb.mp c109)) (Int32.not_le.mp c115)) hq
            · refine V_bipush (v := 10) dX7_two_118 rfl ?_
              refine V_iload dX7_two_120 rfl ?_
              refine V_imul dX7_two_122 ?_
              refine V_iload dX7_two_123 rfl ?_
              refine V_iadd dX7_two_125 ?_
              refine V_istore_n (L' := [_, _, _, _, _, _, _]) dX7_two_126 (by decide) rfl rfl ?_
              refine V_iload dX7_two_127 rfl ?_
              refine V_istore_n (L' := [_, _, _, _, _, _, _]) dX7_two_129 (by decide) rfl rfl ?_
              refine V_iinc (v := _ + (1)) (L' := [_, _, _, _, _, _, _]) dX7_two_130 (by decide) rfl rfl rfl rfl ?_
              refine V_goto (tgt := 35) dX7_two_133 (by decide) ?_
              refine ih (j + 1) _ _ _ _ (by omega) (ix_add (a := i + 1 + j) (b := 1) hy (by decide) (by omega)) ?_
              unfold amin
              rw [hb]
              by_cases hq : twoOK (mi 174) i j = true ∧ twoOff (mi 174) i j < lt
              · first
                | (rw [if_pos hq, nI_of_toInt hx, nI_of_toInt hy]; done)
                | exact absurd (hbb.mpr (of_decide_eq_true hq.1)) c109
                | exact absurd hq.2 (Int32.not_lt.mpr c115)
              · first
                | (rw [if_neg hq]; done)
                | exact absurd (And.intro (decide_eq_true (hbb.mp c109)) (Int32.not_le.mp c115)) hq
      exact loop2 (cN c - (i + 1)) 0 _ _ _ _ (by omega) (ix_add (a := i) (b := 1) hx (by decide) (by omega)) rfl
  exact loop (cN c) 0 _ _ _ _ _ (by omega) (by decide) rfl
set_option maxRecDepth 4000 in
theorem qX8_two (n : Nat) (mi : MI) (mr : MR) (c : CT) (hR : RF mr) (hn : 186 ≤ n) (hBD : BD (mi 174) c)  : Ct KX8_two 6 0 0 [.ref 173] n mi mr (eqQ (some (.int (sTwo (mi 174) (cN c) 100000000))) n (mi) mr) := by
  refine Ct.of2 [some (.ref 173), none, none, none, none, none] (by decide +kernel) (Nat.le_of_ble_eq_true rfl) rfl ?_
  obtain ⟨⟨hN, hN6⟩, ⟨hW, hW5⟩, ⟨hL, hL5⟩, ⟨hT, hT100⟩, ⟨hS, hS5⟩, ⟨hP, hP8⟩, ⟨hBk, hB8⟩⟩ := hBD.1
  refine V_bipush (v := -5) dX8_two_0 rfl ?_
  refine V_istore_n (L' := [_, _, _, _, _, _]) dX8_two_2 (by decide) rfl rfl ?_
  refine V_ldc dX8_two_3 kX8_200 ?_
  refine V_istore_n (L' := [_, _, _, _, _, _]) dX8_two_5 (by decide) rfl rfl ?_
  refine V_iconst (v := 0) dX8_two_6 rfl ?_
  refine V_istore_n (L' := [_, _, _, _, _, _]) dX8_two_7 (by decide) rfl rfl ?_
  have loop : ∀ (m i : Nat) (nr lt x : Int32) (z z2 : Option Value), i + m = cN c → x.toInt = (i : Int) → twoTo (mi 174) (cN c) 100000000 i = (nr, lt) → V KX8_two 6 0 0 (eqQ (some (.int (sTwo (mi 174) (cN c) 100000000))) n (mi) mr) 8 [some (.ref 173), some (.int nr), some (.int lt), some (.int x), z, z2] [] n mi mr := by
    intro m
    induction m with
    | zero =>
      intro i A B x z z2 him hx ha
      have hleB : B ≤ 100000000 := by
        have q := two_le (S := mi 174) (N := cN c) (F := 100000000) (i := i)
        rw [ha] at q
        exact q
      refine V_iload_n dX8_two_8 rfl ?_
      refine V_aload_n dX8_two_9 rfl ?_
      refine V_getr (b := 174) 8 1 dX8_two_10 (Or.inl lkX8_9) rfl rfl ⟨by omega, by omega⟩ (hR _ _ _ rfl) ?_
      refine V_bipush (v := 12) dX8_two_13 rfl ?_
      refine V_iald (len := 938) 12 dX8_two_15 rfl ⟨by omega, by omega⟩ (by decide) (by omega) ?_
      refine V_icmp_ge (tgt := 117) dX8_two_16 (by decide) (fun c16 => ?_) (fun c16 => absurd ((le_nat hN hx).mpr (by omega)) c16)
      have hi : i = cN c := by omega
      subst hi
      refine V_iload_n dX8_two_117 rfl ?_
      refine V_iret dX8_two_118 rfl rfl ?_
      refine ⟨?_, rfl, rfl, rfl⟩
      unfold sTwo
      rw [ha]
    | succ m ih =>
      intro i A B x z z2 him hx ha
      have hleB : B ≤ 100000000 := by
        have q := two_le (S := mi 174) (N := cN c) (F := 100000000) (i := i)
        rw [ha] at q
        exact q
      refine V_iload_n dX8_two_8 rfl ?_
      refine V_aload_n dX8_two_9 rfl ?_
      refine V_getr (b := 174) 8 1 dX8_two_10 (Or.inl lkX8_9) rfl rfl ⟨by omega, by omega⟩ (hR _ _ _ rfl) ?_
      refine V_bipush (v := 12) dX8_two_13 rfl ?_
      refine V_iald (len := 938) 12 dX8_two_15 rfl ⟨by omega, by omega⟩ (by decide) (by omega) ?_
      refine V_icmp_ge (tgt := 117) dX8_two_16 (by decide) (fun c16 => absurd ((le_nat hN hx).mp c16) (by omega)) (fun c16 => ?_)
      refine V_iload_n dX8_two_19 rfl ?_
      refine V_iconst (v := 1) dX8_two_20 rfl ?_
      refine V_iadd dX8_two_21 ?_
      refine V_istore (L' := [_, _, _, _, _, _]) dX8_two_22 (by decide) rfl rfl ?_
      have loop2 : ∀ (m j : Nat) (nr lt y : Int32) (z : Option Value), i + 1 + j + m = cN c → y.toInt = ((i + 1 + j : Nat) : Int) → amin (twoOK (mi 174) i) (twoOff (mi 174) i) (twoTag i) (A, B) j = (nr, lt) → V KX8_two 6 0 0 (eqQ (some (.int (sTwo (mi 174) (cN c) 100000000))) n (mi) mr) 24 [some (.ref 173), some (.int nr), some (.int lt), some (.int x), some (.int y), z] [] n mi mr := by
        intro m
        induction m with
        | zero =>
          intro j nr lt y z hjm hy hb
          have hle : lt ≤ 100000000 := by
            have q := amin_le (ok := twoOK (mi 174) i) (off := twoOff (mi 174) i) (tag := twoTag i) (a := (A, B)) (F := 100000000) hleB (k := j)
            rw [hb] at q
            exact q
          refine V_iload dX8_two_24 rfl ?_
          refine V_aload_n dX8_two_26 rfl ?_
          refine V_getr (b := 174) 8 1 dX8_two_27 (Or.inl lkX8_9) rfl rfl ⟨by omega, by omega⟩ (hR _ _ _ rfl) ?_
          refine V_bipush (v := 12) dX8_two_30 rfl ?_
          refine V_iald (len := 938) 12 dX8_two_32 rfl ⟨by omega, by omega⟩ (by decide) (by omega) ?_
          refine V_icmp_ge (tgt := 111) dX8_two_33 (by decide) (fun c33 => ?_) (fun c33 => absurd ((le_nat hN hy).mpr (by omega)) c33)
          refine V_iinc (v := _ + (1)) (L' := [_, _, _, _, _, _]) dX8_two_111 (by decide) rfl rfl rfl rfl ?_
          refine V_goto (tgt := 8) dX8_two_114 (by decide) ?_
          have hj9 : j = cN c - (i + 1) := by omega
          subst hj9
          exact ih (i + 1) _ _ _ _ _ (by omega) (ix_add hx (by decide) (by omega)) (by rw [twoTo, ha]; exact hb)
        | succ m ih =>
          intro j nr lt y z hjm hy hb
          have hle : lt ≤ 100000000 := by
            have q := amin_le (ok := twoOK (mi 174) i) (off := twoOff (mi 174) i) (tag := twoTag i) (a := (A, B)) (F := 100000000) hleB (k := j)
            rw [hb] at q
            exact q
          refine V_iload dX8_two_24 rfl ?_
          refine V_aload_n dX8_two_26 rfl ?_
          refine V_getr (b := 174) 8 1 dX8_two_27 (Or.inl lkX8_9) rfl rfl ⟨by omega, by omega⟩ (hR _ _ _ rfl) ?_
          refine V_bipush (v := 12) dX8_two_30 rfl ?_
          refine V_iald (len := 938) 12 dX8_two_32 rfl ⟨by omega, by omega⟩ (by decide) (by omega) ?_
          refine V_icmp_ge (tgt := 111) dX8_two_33 (by decide) (fun c33 => absurd ((le_nat hN hy).mp c33) (by omega)) (fun c33 => ?_)
          refine V_aload_n dX8_two_36 rfl ?_
          refine V_iload_n dX8_two_37 rfl ?_
          refine V_callV (ci := 8) (qX8_isHere _ _ _ hR hn (cN c) hN6 hBD.okS _ i hx (by omega)) dX8_two_38 mlX8_159 mtX8_isHere ivX8_isHere rfl rfl ⟨by omega, by omega⟩ (by decide) rfl rfl (by decide) (Nat.le_of_ble_eq_true rfl) rfl rfl ?_
          rintro _ _ _ _ ⟨rfl, rfl, rfl, rfl⟩
          refine V_if_eq (tgt := 70) dX8_two_41 (by decide) (fun c41 => ?_) (fun c41 => ?_)
          · refine V_ldc dX8_two_70 kX8_200 ?_
            refine V_istore (L' := [_, _, _, _, _, _]) dX8_two_72 (by decide) rfl rfl ?_
            refine V_iload dX8_two_74 rfl ?_
            refine V_iload_n dX8_two_76 rfl ?_
            refine V_icmp_ge (tgt := 90) dX8_two_77 (by decide) (fun c77 => ?_) (fun c77 => ?_)
            · refine V_iload_n dX8_two_90 rfl ?_
              refine V_istore_n (L' := [_, _, _, _, _, _]) dX8_two_91 (by decide) rfl rfl ?_
              refine V_iload dX8_two_92 rfl ?_
              refine V_iload_n dX8_two_94 rfl ?_
              refine V_icmp_ge (tgt := 103) dX8_two_95 (by decide) (fun c95 => ?_) (fun c95 => ?_)
              · refine V_iload_n dX8_two_103 rfl ?_
                refine V_istore_n (L' := [_, _, _, _, _, _]) dX8_two_104 (by decide) rfl rfl ?_
                refine V_iinc (v := _ + (1)) (L' := [_, _, _, _, _, _]) dX8_two_105 (by decide) rfl rfl rfl rfl ?_
                refine V_goto (tgt := 24) dX8_two_108 (by decide) ?_
                refine ih (j + 1) _ _ _ _ (by omega) (ix_add (a := i + 1 + j) (b := 1) hy (by decide) (by omega)) ?_
                unfold amin
                rw [hb]
                by_cases hq : twoOK (mi 174) i j = true ∧ twoOff (mi 174) i j < lt
                · first
                  | (rw [if_pos hq, nI_of_toInt hx, nI_of_toInt hy]; done)
                  | (rw [if_pos hq, nI_of_toInt hx, nI_of_toInt hy]; rfl)
                  | exact absurd (of_decide_eq_true (of_decide_eq_true hq.1).1) (b01_0.mp c41)
                  | exact absurd (of_decide_eq_true (of_decide_eq_true hq.1).2) (b01_0.mp c50)
                  | exact absurd hq.2 (Int32.not_lt.mpr c77)
                  | exact absurd (Int32.not_le.mp c77) (Int32.not_lt.mpr c95)
                  | exact absurd (Int32.not_le.mp c95) (Int32.not_lt.mpr c77)
                · first
                  | (rw [if_neg hq]; done)
                  | exact absurd (And.intro (decide_eq_true (And.intro (decide_eq_true (b01_n.mp c41)) (decide_eq_true (b01_n.mp c50)))) (Int32.not_le.mp c77)) hq
                  | exact absurd hle c77
                  | exact absurd hle c95
                  | exact absurd (Int32.not_le.mp c77) (Int32.not_lt.mpr c95)
                  | exact absurd (Int32.not_le.mp c95) (Int32.not_lt.mpr c77)
              · refine V_iload dX8_two_98 rfl ?_
                refine V_goto (tgt := 104) dX8_two_100 (by decide) ?_
                refine V_istore_n (L' := [_, _, _, _, _, _]) dX8_two_104 (by decide) rfl rfl ?_
                refine V_iinc (v := _ + (1)) (L' := [_, _, _, _, _, _]) dX8_two_105 (by decide) rfl rfl rfl rfl ?_
                refine V_goto (tgt := 24) dX8_two_108 (by decide) ?_
                refine ih (j + 1) _ _ _ _ (by omega) (ix_add (a := i + 1 + j) (b := 1) hy (by decide) (by omega)) ?_
                unfold amin
                rw [hb]
                by_cases hq : twoOK (mi 174) i j = true ∧ twoOff (mi 174) i j < lt
                · first
                  | (rw [if_pos hq, nI_of_toInt hx, nI_of_toInt hy]; done)
                  | (rw [if_pos hq, nI_of_toInt hx, nI_of_toInt hy]; rfl)
                  | exact absurd (of_decide_eq_true (of_decide_eq_true hq.1).1) (b01_0.mp c41)
                  | exact absurd (of_decide_eq_true (of_decide_eq_true hq.1).2) (b01_0.mp c50)
                  | exact absurd hq.2 (Int32.not_lt.mpr c77)
                  | exact absurd (Int32.not_le.mp c77) (Int32.not_lt.mpr c95)
                  | exact absurd (Int32.not_le.mp c95) (Int32.not_lt.mpr c77)
                · first
                  | (rw [if_neg hq]; done)
                  | exact absurd (And.intro (decide_eq_true (And.intro (decide_eq_true (b01_n.mp c41)) (decide_eq_true (b01_n.mp c50)))) (Int32.not_le.mp c77)) hq
                  | exact absurd hle c77
                  | exact absurd hle c95
                  | exact absurd (Int32.not_le.mp c77) (Int32.not_lt.mpr c95)
                  | exact absurd (Int32.not_le.mp c95) (Int32.not_lt.mpr c77)
            · refine V_bipush (v := 10) dX8_two_80 rfl ?_
              refine V_iload_n dX8_two_82 rfl ?_
              refine V_imul dX8_two_83 ?_
              refine V_iload dX8_two_84 rfl ?_
              refine V_iadd dX8_two_86 ?_
              refine V_goto (tgt := 91) dX8_two_87 (by decide) ?_
              refine V_istore_n (L' := [_, _, _, _, _, _]) dX8_two_91 (by decide) rfl rfl ?_
              refine V_iload dX8_two_92 rfl ?_
              refine V_iload_n dX8_two_94 rfl ?_
              refine V_icmp_ge (tgt := 103) dX8_two_95 (by decide) (fun c95 => ?_) (fun c95 => ?_)
              · refine V_iload_n dX8_two_103 rfl ?_
                refine V_istore_n (L' := [_, _, _, _, _, _]) dX8_two_104 (by decide) rfl rfl ?_
                refine V_iinc (v := _ + (1)) (L' := [_, _, _, _, _, _]) dX8_two_105 (by decide) rfl rfl rfl rfl ?_
                refine V_goto (tgt := 24) dX8_two_108 (by decide) ?_
                refine ih (j + 1) _ _ _ _ (by omega) (ix_add (a := i + 1 + j) (b := 1) hy (by decide) (by omega)) ?_
                unfold amin
                rw [hb]
                by_cases hq : twoOK (mi 174) i j = true ∧ twoOff (mi 174) i j < lt
                · first
                  | (rw [if_pos hq, nI_of_toInt hx, nI_of_toInt hy]; done)
                  | (rw [if_pos hq, nI_of_toInt hx, nI_of_toInt hy]; rfl)
                  | exact absurd (of_decide_eq_true (of_decide_eq_true hq.1).1) (b01_0.mp c41)
                  | exact absurd (of_decide_eq_true (of_decide_eq_true hq.1).2) (b01_0.mp c50)
                  | exact absurd hq.2 (Int32.not_lt.mpr c77)
                  | exact absurd (Int32.not_le.mp c77) (Int32.not_lt.mpr c95)
                  | exact absurd (Int32.not_le.mp c95) (Int32.not_lt.mpr c77)
                · first
                  | (rw [if_neg hq]; done)
                  | exact absurd (And.intro (decide_eq_true (And.intro (decide_eq_true (b01_n.mp c41)) (decide_eq_true (b01_n.mp c50)))) (Int32.not_le.mp c77)) hq
                  | exact absurd hle c77
                  | exact absurd hle c95
                  | exact absurd (Int32.not_le.mp c77) (Int32.not_lt.mpr c95)
                  | exact absurd (Int32.not_le.mp c95) (Int32.not_lt.mpr c77)
              · refine V_iload dX8_two_98 rfl ?_
                refine V_goto (tgt := 104) dX8_two_100 (by decide) ?_
                refine V_istore_n (L' := [_, _, _, _, _, _]) dX8_two_104 (by decide) rfl rfl ?_
                refine V_iinc (v := _ + (1)) (L' := [_, _, _, _, _, _]) dX8_two_105 (by decide) rfl rfl rfl rfl ?_
                refine V_goto (tgt := 24) dX8_two_108 (by decide) ?_
                refine ih (j + 1) _ _ _ _ (by omega) (ix_add (a := i + 1 + j) (b := 1) hy (by decide) (by omega)) ?_
                unfold amin
                rw [hb]
                by_cases hq : twoOK (mi 174) i j = true ∧ twoOff (mi 174) i j < lt
                · first
                  | (rw [if_pos hq, nI_of_toInt hx, nI_of_toInt hy]; done)
                  | (rw [if_pos hq, nI_of_toInt hx, nI_of_toInt hy]; rfl)
                  | exact absurd (of_decide_eq_true (of_decide_eq_true hq.1).1) (b01_0.mp c41)
                  | exact absurd (of_decide_eq_true (of_decide_eq_true hq.1).2) (b01_0.mp c50)
                  | exact absurd hq.2 (Int32.not_lt.mpr c77)
                  | exact absurd (Int32.not_le.mp c77) (Int32.not_lt.mpr c95)
                  | exact absurd (Int32.not_le.mp c95) (Int32.not_lt.mpr c77)
                · first
                  | (rw [if_neg hq]; done)
                  | exact absurd (And.intro (decide_eq_true (And.intro (decide_eq_true (b01_n.mp c41)) (decide_eq_true (b01_n.mp c50)))) (Int32.not_le.mp c77)) hq
                  | exact absurd hle c77
                  | exact absurd hle c95
                  | exact absurd (Int32.not_le.mp c77) (Int32.not_lt.mpr c95)
                  | exact absurd (Int32.not_le.mp c95) (Int32.not_lt.mpr c77)
          · refine V_aload_n dX8_two_44 rfl ?_
            refine V_iload dX8_two_45 rfl ?_
            refine V_callV (ci := 8) (qX8_isHere _ _ _ hR hn (cN c) hN6 hBD.okS _ (i + 1 + j) hy (by omega)) dX8_two_47 mlX8_159 mtX8_isHere ivX8_isHere rfl rfl ⟨by omega, by omega⟩ (by decide) rfl rfl (by decide) (Nat.le_of_ble_eq_true rfl) rfl rfl ?_
            rintro _ _ _ _ ⟨rfl, rfl, rfl, rfl⟩
            refine V_if_eq (tgt := 70) dX8_two_50 (by decide) (fun c50 => ?_) (fun c50 => ?_)
            · refine V_ldc dX8_two_70 kX8_200 ?_
              refine V_istore (L' := [_, _, _, _, _, _]) dX8_two_72 (by decide) rfl rfl ?_
              refine V_iload dX8_two_74 rfl ?_
              refine V_iload_n dX8_two_76 rfl ?_
              refine V_icmp_ge (tgt := 90) dX8_two_77 (by decide) (fun c77 => ?_) (fun c77 => ?_)
              · refine V_iload_n dX8_two_90 rfl ?_
                refine V_istore_n (L' := [_, _, _, _, _, _]) dX8_two_91 (by decide) rfl rfl ?_
                refine V_iload dX8_two_92 rfl ?_
                refine V_iload_n dX8_two_94 rfl ?_
                refine V_icmp_ge (tgt := 103) dX8_two_95 (by decide) (fun c95 => ?_) (fun c95 => ?_)
                · refine V_iload_n dX8_two_103 rfl ?_
                  refine V_istore_n (L' := [_, _, _, _, _, _]) dX8_two_104 (by decide) rfl rfl ?_
                  refine V_iinc (v := _ + (1)) (L' := [_, _, _, _, _, _]) dX8_two_105 (by decide) rfl rfl rfl rfl ?_
                  refine V_goto (tgt := 24) dX8_two_108 (by decide) ?_
                  refine ih (j + 1) _ _ _ _ (by omega) (ix_add (a := i + 1 + j) (b := 1) hy (by decide) (by omega)) ?_
                  unfold amin
                  rw [hb]
                  by_cases hq : twoOK (mi 174) i j = true ∧ twoOff (mi 174) i j < lt
                  · first
                    | (rw [if_pos hq, nI_of_toInt hx, nI_of_toInt hy]; done)
                    | (rw [if_pos hq, nI_of_toInt hx, nI_of_toInt hy]; rfl)
                    | exact absurd (of_decide_eq_true (of_decide_eq_true hq.1).1) (b01_0.mp c41)
                    | exact absurd (of_decide_eq_true (of_decide_eq_true hq.1).2) (b01_0.mp c50)
                    | exact absurd hq.2 (Int32.not_lt.mpr c77)
                    | exact absurd (Int32.not_le.mp c77) (Int32.not_lt.mpr c95)
                    | exact absurd (Int32.not_le.mp c95) (Int32.not_lt.mpr c77)
                  · first
                    | (rw [if_neg hq]; done)
                    | exact absurd (And.intro (decide_eq_true (And.intro (decide_eq_true (b01_n.mp c41)) (decide_eq_true (b01_n.mp c50)))) (Int32.not_le.mp c77)) hq
                    | exact absurd hle c77
                    | exact absurd hle c95
                    | exact absurd (Int32.not_le.mp c77) (Int32.not_lt.mpr c95)
                    | exact absurd (Int32.not_le.mp c95) (Int32.not_lt.mpr c77)
                · refine V_iload dX8_two_98 rfl ?_
                  refine V_goto (tgt := 104) dX8_two_100 (by decide) ?_
                  refine V_istore_n (L' := [_, _, _, _, _, _]) dX8_two_104 (by decide) rfl rfl ?_
                  refine V_iinc (v := _ + (1)) (L' := [_, _, _, _, _, _]) dX8_two_105 (by decide) rfl rfl rfl rfl ?_
                  refine V_goto (tgt := 24) dX8_two_108 (by decide) ?_
                  refine ih (j + 1) _ _ _ _ (by omega) (ix_add (a := i + 1 + j) (b := 1) hy (by decide) (by omega)) ?_
                  unfold amin
                  rw [hb]
                  by_cases hq : twoOK (mi 174) i j = true ∧ twoOff (mi 174) i j < lt
                  · first
                    | (rw [if_pos hq, nI_of_toInt hx, nI_of_toInt hy]; done)
                    | (rw [if_pos hq, nI_of_toInt hx, nI_of_toInt hy]; rfl)
                    | exact absurd (of_decide_eq_true (of_decide_eq_true hq.1).1) (b01_0.mp c41)
                    | exact absurd (of_decide_eq_true (of_decide_eq_true hq.1).2) (b01_0.mp c50)
                    | exact absurd hq.2 (Int32.not_lt.mpr c77)
                    | exact absurd (Int32.not_le.mp c77) (Int32.not_lt.mpr c95)
                    | exact absurd (Int32.not_le.mp c95) (Int32.not_lt.mpr c77)
                  · first
                    | (rw [if_neg hq]; done)
                    | exact absurd (And.intro (decide_eq_true (And.intro (decide_eq_true (b01_n.mp c41)) (decide_eq_true (b01_n.mp c50)))) (Int32.not_le.mp c77)) hq
                    | exact absurd hle c77
                    | exact absurd hle c95
                    | exact absurd (Int32.not_le.mp c77) (Int32.not_lt.mpr c95)
                    | exact absurd (Int32.not_le.mp c95) (Int32.not_lt.mpr c77)
              · refine V_bipush (v := 10) dX8_two_80 rfl ?_
                refine V_iload_n dX8_two_82 rfl ?_
                refine V_imul dX8_two_83 ?_
                refine V_iload dX8_two_84 rfl ?_
                refine V_iadd dX8_two_86 ?_
                refine V_goto (tgt := 91) dX8_two_87 (by decide) ?_
                refine V_istore_n (L' := [_, _, _, _, _, _]) dX8_two_91 (by decide) rfl rfl ?_
                refine V_iload dX8_two_92 rfl ?_
                refine V_iload_n dX8_two_94 rfl ?_
                refine V_icmp_ge (tgt := 103) dX8_two_95 (by decide) (fun c95 => ?_) (fun c95 => ?_)
                · refine V_iload_n dX8_two_103 rfl ?_
                  refine V_istore_n (L' := [_, _, _, _, _, _]) dX8_two_104 (by decide) rfl rfl ?_
                  refine V_iinc (v := _ + (1)) (L' := [_, _, _, _, _, _]) dX8_two_105 (by decide) rfl rfl rfl rfl ?_
                  refine V_goto (tgt := 24) dX8_two_108 (by decide) ?_
                  refine ih (j + 1) _ _ _ _ (by omega) (ix_add (a := i + 1 + j) (b := 1) hy (by decide) (by omega)) ?_
                  unfold amin
                  rw [hb]
                  by_cases hq : twoOK (mi 174) i j = true ∧ twoOff (mi 174) i j < lt
                  · first
                    | (rw [if_pos hq, nI_of_toInt hx, nI_of_toInt hy]; done)
                    | (rw [if_pos hq, nI_of_toInt hx, nI_of_toInt hy]; rfl)
                    | exact absurd (of_decide_eq_true (of_decide_eq_true hq.1).1) (b01_0.mp c41)
                    | exact absurd (of_decide_eq_true (of_decide_eq_true hq.1).2) (b01_0.mp c50)
                    | exact absurd hq.2 (Int32.not_lt.mpr c77)
                    | exact absurd (Int32.not_le.mp c77) (Int32.not_lt.mpr c95)
                    | exact absurd (Int32.not_le.mp c95) (Int32.not_lt.mpr c77)
                  · first
                    | (rw [if_neg hq]; done)
                    | exact absurd (And.intro (decide_eq_true (And.intro (decide_eq_true (b01_n.mp c41)) (decide_eq_true (b01_n.mp c50)))) (Int32.not_le.mp c77)) hq
                    | exact absurd hle c77
                    | exact absurd hle c95
                    | exact absurd (Int32.not_le.mp c77) (Int32.not_lt.mpr c95)
                    | exact absurd (Int32.not_le.mp c95) (Int32.not_lt.mpr c77)
                · refine V_iload dX8_two_98 rfl ?_
                  refine V_goto (tgt := 104) dX8_two_100 (by decide) ?_
                  refine V_istore_n (L' := [_, _, _, _, _, _]) dX8_two_104 (by decide) rfl rfl ?_
                  refine V_iinc (v := _ + (1)) (L' := [_, _, _, _, _, _]) dX8_two_105 (by decide) rfl rfl rfl rfl ?_
                  refine V_goto (tgt := 24) dX8_two_108 (by decide) ?_
                  refine ih (j + 1) _ _ _ _ (by omega) (ix_add (a := i + 1 + j) (b := 1) hy (by decide) (by omega)) ?_
                  unfold amin
                  rw [hb]
                  by_cases hq : twoOK (mi 174) i j = true ∧ twoOff (mi 174) i j < lt
                  · first
                    | (rw [if_pos hq, nI_of_toInt hx, nI_of_toInt hy]; done)
                    | (rw [if_pos hq, nI_of_toInt hx, nI_of_toInt hy]; rfl)
                    | exact absurd (of_decide_eq_true (of_decide_eq_true hq.1).1) (b01_0.mp c41)
                    | exact absurd (of_decide_eq_true (of_decide_eq_true hq.1).2) (b01_0.mp c50)
                    | exact absurd hq.2 (Int32.not_lt.mpr c77)
                    | exact absurd (Int32.not_le.mp c77) (Int32.not_lt.mpr c95)
                    | exact absurd (Int32.not_le.mp c95) (Int32.not_lt.mpr c77)
                  · first
                    | (rw [if_neg hq]; done)
                    | exact absurd (And.intro (decide_eq_true (And.intro (decide_eq_true (b01_n.mp c41)) (decide_eq_true (b01_n.mp c50)))) (Int32.not_le.mp c77)) hq
                    | exact absurd hle c77
                    | exact absurd hle c95
                    | exact absurd (Int32.not_le.mp c77) (Int32.not_lt.mpr c95)
                    | exact absurd (Int32.not_le.mp c95) (Int32.not_lt.mpr c77)
            · refine V_aload_n dX8_two_53 rfl ?_
              refine V_iload_n dX8_two_54 rfl ?_
              refine V_callV (ci := 8) (qX8_ageOf _ _ _ hR hn (cN c) hN6 hBD.okS _ i hx (by omega)) dX8_two_55 mlX8_155 mtX8_ageOf ivX8_ageOf rfl rfl ⟨by omega, by omega⟩ (by decide) rfl rfl (by decide) (Nat.le_of_ble_eq_true rfl) rfl rfl ?_
              rintro _ _ _ _ ⟨rfl, rfl, rfl, rfl⟩
              refine V_aload_n dX8_two_58 rfl ?_
              refine V_iload dX8_two_59 rfl ?_
              refine V_callV (ci := 8) (qX8_ageOf _ _ _ hR hn (cN c) hN6 hBD.okS _ (i + 1 + j) hy (by omega)) dX8_two_61 mlX8_155 mtX8_ageOf ivX8_ageOf rfl rfl ⟨by omega, by omega⟩ (by decide) rfl rfl (by decide) (Nat.le_of_ble_eq_true rfl) rfl rfl ?_
              rintro _ _ _ _ ⟨rfl, rfl, rfl, rfl⟩
              refine V_callS (qX8_apart _ _ _ hR hn _ _) dX8_two_64 mlX8_201 mtX8_apart smX8_apart rfl rfl (by decide) (Nat.le_of_ble_eq_true rfl) rfl rfl ?_
              rintro _ _ _ _ ⟨rfl, rfl, rfl, rfl⟩
              rw [show (if sAge (mi 174) i (mi 174 (1 + i)) < sAge (mi 174) (i + 1 + j) (mi 174 (1 + (i + 1 + j))) then sAge (mi 174) (i + 1 + j) (mi 174 (1 + (i + 1 + j))) - sAge (mi 174) i (mi 174 (1 + i)) else sAge (mi 174) i (mi 174 (1 + i)) - sAge (mi 174) (i + 1 + j) (mi 174 (1 + (i + 1 + j)))) = twoOff (mi 174) i j from rfl]
              refine V_goto (tgt := 72) dX8_two_67 (by decide) ?_
              refine V_istore (L' := [_, _, _, _, _, _]) dX8_two_72 (by decide) rfl rfl ?_
              refine V_iload dX8_two_74 rfl ?_
              refine V_iload_n dX8_two_76 rfl ?_
              refine V_icmp_ge (tgt := 90) dX8_two_77 (by decide) (fun c77 => ?_) (fun c77 => ?_)
              · refine V_iload_n dX8_two_90 rfl ?_
                refine V_istore_n (L' := [_, _, _, _, _, _]) dX8_two_91 (by decide) rfl rfl ?_
                refine V_iload dX8_two_92 rfl ?_
                refine V_iload_n dX8_two_94 rfl ?_
                refine V_icmp_ge (tgt := 103) dX8_two_95 (by decide) (fun c95 => ?_) (fun c95 => ?_)
                · refine V_iload_n dX8_two_103 rfl ?_
                  refine V_istore_n (L' := [_, _, _, _, _, _]) dX8_two_104 (by decide) rfl rfl ?_
                  refine V_iinc (v := _ + (1)) (L' := [_, _, _, _, _, _]) dX8_two_105 (by decide) rfl rfl rfl rfl ?_
                  refine V_goto (tgt := 24) dX8_two_108 (by decide) ?_
                  refine ih (j + 1) _ _ _ _ (by omega) (ix_add (a := i + 1 + j) (b := 1) hy (by decide) (by omega)) ?_
                  unfold amin
                  rw [hb]
                  by_cases hq : twoOK (mi 174) i j = true ∧ twoOff (mi 174) i j < lt
                  · first
                    | (rw [if_pos hq, nI_of_toInt hx, nI_of_toInt hy]; done)
                    | (rw [if_pos hq, nI_of_toInt hx, nI_of_toInt hy]; rfl)
                    | exact absurd (of_decide_eq_true (of_decide_eq_true hq.1).1) (b01_0.mp c41)
                    | exact absurd (of_decide_eq_true (of_decide_eq_true hq.1).2) (b01_0.mp c50)
                    | exact absurd hq.2 (Int32.not_lt.mpr c77)
                    | exact absurd (Int32.not_le.mp c77) (Int32.not_lt.mpr c95)
                    | exact absurd (Int32.not_le.mp c95) (Int32.not_lt.mpr c77)
                  · first
                    | (rw [if_neg hq]; done)
                    | exact absurd (And.intro (decide_eq_true (And.intro (decide_eq_true (b01_n.mp c41)) (decide_eq_true (b01_n.mp c50)))) (Int32.not_le.mp c77)) hq
                    | exact absurd hle c77
                    | exact absurd hle c95
                    | exact absurd (Int32.not_le.mp c77) (Int32.not_lt.mpr c95)
                    | exact absurd (Int32.not_le.mp c95) (Int32.not_lt.mpr c77)
                · refine V_iload dX8_two_98 rfl ?_
                  refine V_goto (tgt := 104) dX8_two_100 (by decide) ?_
                  refine V_istore_n (L' := [_, _, _, _, _, _]) dX8_two_104 (by decide) rfl rfl ?_
                  refine V_iinc (v := _ + (1)) (L' := [_, _, _, _, _, _]) dX8_two_105 (by decide) rfl rfl rfl rfl ?_
                  refine V_goto (tgt := 24) dX8_two_108 (by decide) ?_
                  refine ih (j + 1) _ _ _ _ (by omega) (ix_add (a := i + 1 + j) (b := 1) hy (by decide) (by omega)) ?_
                  unfold amin
                  rw [hb]
                  by_cases hq : twoOK (mi 174) i j = true ∧ twoOff (mi 174) i j < lt
                  · first
                    | (rw [if_pos hq, nI_of_toInt hx, nI_of_toInt hy]; done)
                    | (rw [if_pos hq, nI_of_toInt hx, nI_of_toInt hy]; rfl)
                    | exact absurd (of_decide_eq_true (of_decide_eq_true hq.1).1) (b01_0.mp c41)
                    | exact absurd (of_decide_eq_true (of_decide_eq_true hq.1).2) (b01_0.mp c50)
                    | exact absurd hq.2 (Int32.not_lt.mpr c77)
                    | exact absurd (Int32.not_le.mp c77) (Int32.not_lt.mpr c95)
                    | exact absurd (Int32.not_le.mp c95) (Int32.not_lt.mpr c77)
                  · first
                    | (rw [if_neg hq]; done)
                    | exact absurd (And.intro (decide_eq_true (And.intro (decide_eq_true (b01_n.mp c41)) (decide_eq_true (b01_n.mp c50)))) (Int32.not_le.mp c77)) hq
                    | exact absurd hle c77
                    | exact absurd hle c95
                    | exact absurd (Int32.not_le.mp c77) (Int32.not_lt.mpr c95)
                    | exact absurd (Int32.not_le.mp c95) (Int32.not_lt.mpr c77)
              · refine V_bipush (v := 10) dX8_two_80 rfl ?_
                refine V_iload_n dX8_two_82 rfl ?_
                refine V_imul dX8_two_83 ?_
                refine V_iload dX8_two_84 rfl ?_
                refine V_iadd dX8_two_86 ?_
                refine V_goto (tgt := 91) dX8_two_87 (by decide) ?_
                refine V_istore_n (L' := [_, _, _, _, _, _]) dX8_two_91 (by decide) rfl rfl ?_
                refine V_iload dX8_two_92 rfl ?_
                refine V_iload_n dX8_two_94 rfl ?_
                refine V_icmp_ge (tgt := 103) dX8_two_95 (by decide) (fun c95 => ?_) (fun c95 => ?_)
                · refine V_iload_n dX8_two_103 rfl ?_
                  refine V_istore_n (L' := [_, _, _, _, _, _]) dX8_two_104 (by decide) rfl rfl ?_
                  refine V_iinc (v := _ + (1)) (L' := [_, _, _, _, _, _]) dX8_two_105 (by decide) rfl rfl rfl rfl ?_
                  refine V_goto (tgt := 24) dX8_two_108 (by decide) ?_
                  refine ih (j + 1) _ _ _ _ (by omega) (ix_add (a := i + 1 + j) (b := 1) hy (by decide) (by omega)) ?_
                  unfold amin
                  rw [hb]
                  by_cases hq : twoOK (mi 174) i j = true ∧ twoOff (mi 174) i j < lt
                  · first
                    | (rw [if_pos hq, nI_of_toInt hx, nI_of_toInt hy]; done)
                    | (rw [if_pos hq, nI_of_toInt hx, nI_of_toInt hy]; rfl)
                    | exact absurd (of_decide_eq_true (of_decide_eq_true hq.1).1) (b01_0.mp c41)
                    | exact absurd (of_decide_eq_true (of_decide_eq_true hq.1).2) (b01_0.mp c50)
                    | exact absurd hq.2 (Int32.not_lt.mpr c77)
                    | exact absurd (Int32.not_le.mp c77) (Int32.not_lt.mpr c95)
                    | exact absurd (Int32.not_le.mp c95) (Int32.not_lt.mpr c77)
                  · first
                    | (rw [if_neg hq]; done)
                    | exact absurd (And.intro (decide_eq_true (And.intro (decide_eq_true (b01_n.mp c41)) (decide_eq_true (b01_n.mp c50)))) (Int32.not_le.mp c77)) hq
                    | exact absurd hle c77
                    | exact absurd hle c95
                    | exact absurd (Int32.not_le.mp c77) (Int32.not_lt.mpr c95)
                    | exact absurd (Int32.not_le.mp c95) (Int32.not_lt.mpr c77)
                · refine V_iload dX8_two_98 rfl ?_
                  refine V_goto (tgt := 104) dX8_two_100 (by decide) ?_
                  refine V_istore_n (L' := [_, _, _, _, _, _]) dX8_two_104 (by decide) rfl rfl ?_
                  refine V_iinc (v := _ + (1)) (L' := [_, _, _, _, _, _]) dX8_two_105 (by decide) rfl rfl rfl rfl ?_
                  refine V_goto (tgt := 24) dX8_two_108 (by decide) ?_
                  refine ih (j + 1) _ _ _ _ (by omega) (ix_add (a := i + 1 + j) (b := 1) hy (by decide) (by omega)) ?_
                  unfold amin
                  rw [hb]
                  by_cases hq : twoOK (mi 174) i j = true ∧ twoOff (mi 174) i j < lt
                  · first
                    | (rw [if_pos hq, nI_of_toInt hx, nI_of_toInt hy]; done)
                    | (rw [if_pos hq, nI_of_toInt hx, nI_of_toInt hy]; rfl)
                    | exact absurd (of_decide_eq_true (of_decide_eq_true hq.1).1) (b01_0.mp c41)
                    | exact absurd (of_decide_eq_true (of_decide_eq_true hq.1).2) (b01_0.mp c50)
                    | exact absurd hq.2 (Int32.not_lt.mpr c77)
                    | exact absurd (Int32.not_le.mp c77) (Int32.not_lt.mpr c95)
                    | exact absurd (Int32.not_le.mp c95) (Int32.not_lt.mpr c77)
                  · first
                    | (rw [if_neg hq]; done)
                    | exact absurd (And.intro (decide_eq_true (And.intro (decide_eq_true (b01_n.mp c41)) (decide_eq_true (b01_n.mp c50)))) (Int32.not_le.mp c77)) hq
                    | exact absurd hle c77
                    | exact absurd hle c95
                    | exact absurd (Int32.not_le.mp c77) (Int32.not_lt.mpr c95)
                    | exact absurd (Int32.not_le.mp c95) (Int32.not_lt.mpr c77)
      exact loop2 (cN c - (i + 1)) 0 _ _ _ _ (by omega) (ix_add (a := i) (b := 1) hx (by decide) (by omega)) rfl
  exact loop (cN c) 0 _ _ _ _ _ (by omega) (by decide) rfl
