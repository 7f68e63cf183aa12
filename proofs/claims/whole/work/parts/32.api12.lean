abbrev sSeen (S : Nat → Int32) (N : Nat) (x age : Int32) : Prop := ∀ j, j < N → S (73 + j) = x → S (78 + j) = age
theorem seen_eq {S : Nat → Int32} {c : CT} {mi : MI} {w : Nat} {x age : Int32} (hr : RW S c mi w) : asSeen mi (w + 5) (cS c) x age ↔ sSeen S (cS c) x age := by
  have h := hr.2.2.2.2.1.2
  constructor
  · intro q j hj e
    rw [← (h j hj).2]
    exact q j hj ((h j hj).1.trans e)
  · intro q j hj e
    rw [(h j hj).2]
    exact q j hj ((h j hj).1.symm.trans e)
def sAgeG (S : Nat → Int32) (p : Nat) (y born v : Int32) : Int32 := if y = -1 then S 0 - born else fAge (S (20 + p)) v born (S 0) (S (68 + y.toNatClampNeg)) (fun k => S (44 + 4 * p + k))
theorem ageG_eq {S : Nat → Int32} {c : CT} {mi : MI} {w p : Nat} {y born v : Int32} (hB : BD S c) (hr : RW S c mi w) (hp : p < cN c) (hy : hasIn y (cW c)) : cAgeHad mi (w + 18 + 2 * p) (mi w 0) (cY mi w y) born v = sAgeG S p y born v := by
  obtain ⟨⟨r1, r2, r3, r4, r5⟩, hper, hvin, -⟩ := hr
  obtain ⟨p1, p2, p3, p4, p5, p6⟩ := hper p hp
  unfold cAgeHad cY sAgeG
  rw [p1, r1]
  rcases hy with rfl | ⟨h, h1, h2⟩
  · rw [if_pos rfl, if_pos rfl, if_neg (by decide)]
  · have hne : ¬ y = -1 := fun e => by simp only [e, Int32.reduceToInt] at h1; omega
    rw [if_neg hne, if_neg hne, nat_of_toInt h1, (hvin h h2).1]
    obtain ⟨yr, y1, y2⟩ := (hB.2.2.2.2.1 h (by have := hB.1.2.1.2; omega)).1
    have hy0 : (0 : Int32) ≤ S (68 + h) := by rw [Int32.le_iff_toInt_le, y1]; simp only [Int32.reduceToInt]; omega
    rw [if_pos hy0]
    exact fAge_congr p6
theorem sAgeG_self {S : Nat → Int32} {p : Nat} {y : Int32} : sAgeG S p y (S (32 + p)) (S (26 + p)) = sAge S p y := rfl
/-- the bits behind a first -/
def bitsFrom (b : Int32) (f : Nat → Bool) : Nat → Int32
  | 0 => b
  | k + 1 => if f k = true then bitsFrom b f k ||| (1 <<< (nI k &&& 31)) else bitsFrom b f k
abbrev drankB (S : Nat → Int32) (N : Nat) (p : Nat) (x : Int32) (v : Nat) : Bool := decide (sSeen S N x (sAge S p (nI v)))
def sDrank (S : Nat → Int32) (W N : Nat) (p : Int32) : Int32 := if 0 ≤ p ∧ p < S 12 then bitsFrom (if sSeen S N p (sAge S p.toNatClampNeg (-1)) then 32 else 0) (drankB S N p.toNatClampNeg p) W else -1
theorem ball_succ {P : Nat → Prop} {i : Nat} : (∀ j, j < i + 1 → P j) ↔ (∀ j, j < i → P j) ∧ P i := by
  constructor
  · exact fun h => ⟨fun j hj => h j (by omega), h i (by omega)⟩
  · intro h j hj
    by_cases e : j = i
    · subst e; exact h.2
    · exact h.1 j (by omega)
theorem b01_iff {P Q : Prop} [Decidable P] [Decidable Q] (h : P ↔ Q) : b01 P = b01 Q := by
  by_cases q : Q
  · rw [b01_t q, b01_t (h.mpr q)]
  · rw [b01_f q, b01_f (fun e => q (h.mp e))]
set_option maxRecDepth 4000 in
theorem qX8_isAsSeen (n : Nat) (mi : MI) (mr : MR) (c : CT) (hR : RF mr) (hn : 186 ≤ n) (hBD : BD (mi 174) c) (x y : Int32)  : Ct KX8_isAsSeen 1 0 0 [.ref 173, .int x, .int y] n mi mr (eqQ (some (.int (b01 (sSeen (mi 174) (cS c) x y)))) n mi mr) := by
  refine Ct.of2 [some (.ref 173), some (.int x), some (.int y), none, none] (by decide +kernel) (Nat.le_of_ble_eq_true rfl) rfl ?_
  obtain ⟨⟨hN, hN6⟩, ⟨hW, hW5⟩, ⟨hL, hL5⟩, ⟨hT, hT100⟩, ⟨hS, hS5⟩, ⟨hP, hP8⟩, ⟨hBk, hB8⟩⟩ := hBD.1
  refine V_iconst (v := 1) dX8_isAsSeen_0 rfl ?_
  refine V_istore_n (L' := [_, _, _, _, _]) dX8_isAsSeen_1 (by decide) rfl rfl ?_
  refine V_iconst (v := 0) dX8_isAsSeen_2 rfl ?_
  refine V_istore (L' := [_, _, _, _, _]) dX8_isAsSeen_3 (by decide) rfl rfl ?_
  have loop : ∀ (m i : Nat) (r z : Int32), i + m = cS c → z.toInt = (i : Int) → r = b01 (sSeen (mi 174) i x y) → V KX8_isAsSeen 1 0 0 (eqQ (some (.int (b01 (sSeen (mi 174) (cS c) x y)))) n mi mr) 5 [some (.ref 173), some (.int x), some (.int y), some (.int r), some (.int z)] [] n mi mr := by
    intro m
    induction m with
    | zero =>
      intro i r z him hz hr9
      refine V_iload dX8_isAsSeen_5 rfl ?_
      refine V_aload_n dX8_isAsSeen_7 rfl ?_
      refine V_getr (b := 174) 8 1 dX8_isAsSeen_8 (Or.inl lkX8_9) rfl rfl ⟨by omega, by omega⟩ (hR _ _ _ rfl) ?_
      refine V_bipush (v := 14) dX8_isAsSeen_11 rfl ?_
      refine V_iald (len := 938) 14 dX8_isAsSeen_13 rfl ⟨by omega, by omega⟩ (by decide) (by omega) ?_
      refine V_icmp_ge (tgt := 61) dX8_isAsSeen_14 (by decide) (fun c14 => ?_) (fun c14 => absurd ((le_nat hS hz).mpr (by omega)) c14)
      refine V_iload_n dX8_isAsSeen_61 rfl ?_
      refine V_iret dX8_isAsSeen_62 rfl (by rw [hr9]; exact b01_nar) ?_
      have hi : i = cS c := by omega
      subst hi
      exact ⟨by rw [hr9], rfl, rfl, rfl⟩
    | succ m ih =>
      intro i r z him hz hr9
      refine V_iload dX8_isAsSeen_5 rfl ?_
      refine V_aload_n dX8_isAsSeen_7 rfl ?_
      refine V_getr (b := 174) 8 1 dX8_isAsSeen_8 (Or.inl lkX8_9) rfl rfl ⟨by omega, by omega⟩ (hR _ _ _ rfl) ?_
      refine V_bipush (v := 14) dX8_isAsSeen_11 rfl ?_
      refine V_iald (len := 938) 14 dX8_isAsSeen_13 rfl ⟨by omega, by omega⟩ (by decide) (by omega) ?_
      refine V_icmp_ge (tgt := 61) dX8_isAsSeen_14 (by decide) (fun c14 => absurd ((le_nat hS hz).mp c14) (by omega)) (fun c14 => ?_)
      refine V_iload_n dX8_isAsSeen_17 rfl ?_
      refine V_if_eq (tgt := 53) dX8_isAsSeen_18 (by decide) (fun c18 => ?_) (fun c18 => ?_)
      · refine V_iconst (v := 0) dX8_isAsSeen_53 rfl ?_
        refine V_istore_n (L' := [_, _, _, _, _]) dX8_isAsSeen_54 (by decide) rfl rfl ?_
        refine V_iinc (v := _ + (1)) (L' := [_, _, _, _, _]) dX8_isAsSeen_55 (by decide) rfl rfl rfl rfl ?_
        refine V_goto (tgt := 5) dX8_isAsSeen_58 (by decide) ?_
        refine ih (i + 1) _ _ (by omega) (ix_add hz (by decide) (by omega)) ?_
        rw [hr9, b01_0] at c18
        by_cases hq : sSeen (mi 174) (i + 1) x y
        · obtain ⟨h1, h2⟩ := ball_succ.mp hq
          first
          | (rw [b01_t hq]; done)
          | exact absurd h1 c18
          | exact absurd (h2 c32) c46
        · first
          | (rw [b01_f hq]; done)
          | exact absurd (ball_succ.mpr (And.intro (Classical.not_not.mp c18) (fun e => absurd e c32))) hq
          | exact absurd (ball_succ.mpr (And.intro (Classical.not_not.mp c18) (fun _ => c46))) hq
      · refine V_aload_n dX8_isAsSeen_21 rfl ?_
        refine V_getr (b := 174) 8 1 dX8_isAsSeen_22 (Or.inl lkX8_9) rfl rfl ⟨by omega, by omega⟩ (hR _ _ _ rfl) ?_
        refine V_bipush (v := 73) dX8_isAsSeen_25 rfl ?_
        refine V_iload dX8_isAsSeen_27 rfl ?_
        refine V_iadd dX8_isAsSeen_29 ?_
        refine V_iald (len := 938) (73 + i) dX8_isAsSeen_30 rfl ⟨by omega, by omega⟩ (ix_add (by decide) hz (by omega)) (by omega) ?_
        refine V_iload_n dX8_isAsSeen_31 rfl ?_
        refine V_icmp_ne (tgt := 49) dX8_isAsSeen_32 (by decide) (fun c32 => ?_) (fun c32 => ?_)
        · refine V_iconst (v := 1) dX8_isAsSeen_49 rfl ?_
          refine V_goto (tgt := 54) dX8_isAsSeen_50 (by decide) ?_
          refine V_istore_n (L' := [_, _, _, _, _]) dX8_isAsSeen_54 (by decide) rfl rfl ?_
          refine V_iinc (v := _ + (1)) (L' := [_, _, _, _, _]) dX8_isAsSeen_55 (by decide) rfl rfl rfl rfl ?_
          refine V_goto (tgt := 5) dX8_isAsSeen_58 (by decide) ?_
          refine ih (i + 1) _ _ (by omega) (ix_add hz (by decide) (by omega)) ?_
          rw [hr9, b01_0] at c18
          by_cases hq : sSeen (mi 174) (i + 1) x y
          · obtain ⟨h1, h2⟩ := ball_succ.mp hq
            first
            | (rw [b01_t hq]; done)
            | exact absurd h1 c18
            | exact absurd (h2 c32) c46
          · first
            | (rw [b01_f hq]; done)
            | exact absurd (ball_succ.mpr (And.intro (Classical.not_not.mp c18) (fun e => absurd e c32))) hq
            | exact absurd (ball_succ.mpr (And.intro (Classical.not_not.mp c18) (fun _ => c46))) hq
        · refine V_aload_n dX8_isAsSeen_35 rfl ?_
          refine V_getr (b := 174) 8 1 dX8_isAsSeen_36 (Or.inl lkX8_9) rfl rfl ⟨by omega, by omega⟩ (hR _ _ _ rfl) ?_
          refine V_bipush (v := 78) dX8_isAsSeen_39 rfl ?_
          refine V_iload dX8_isAsSeen_41 rfl ?_
          refine V_iadd dX8_isAsSeen_43 ?_
          refine V_iald (len := 938) (78 + i) dX8_isAsSeen_44 rfl ⟨by omega, by omega⟩ (ix_add (by decide) hz (by omega)) (by omega) ?_
          refine V_iload_n dX8_isAsSeen_45 rfl ?_
          refine V_icmp_ne (tgt := 53) dX8_isAsSeen_46 (by decide) (fun c46 => ?_) (fun c46 => ?_)
          · refine V_iconst (v := 0) dX8_isAsSeen_53 rfl ?_
            refine V_istore_n (L' := [_, _, _, _, _]) dX8_isAsSeen_54 (by decide) rfl rfl ?_
            refine V_iinc (v := _ + (1)) (L' := [_, _, _, _, _]) dX8_isAsSeen_55 (by decide) rfl rfl rfl rfl ?_
            refine V_goto (tgt := 5) dX8_isAsSeen_58 (by decide) ?_
            refine ih (i + 1) _ _ (by omega) (ix_add hz (by decide) (by omega)) ?_
            rw [hr9, b01_0] at c18
            by_cases hq : sSeen (mi 174) (i + 1) x y
            · obtain ⟨h1, h2⟩ := ball_succ.mp hq
              first
              | (rw [b01_t hq]; done)
              | exact absurd h1 c18
              | exact absurd (h2 c32) c46
            · first
              | (rw [b01_f hq]; done)
              | exact absurd (ball_succ.mpr (And.intro (Classical.not_not.mp c18) (fun e => absurd e c32))) hq
              | exact absurd (ball_succ.mpr (And.intro (Classical.not_not.mp c18) (fun _ => c46))) hq
          · refine V_iconst (v := 1) dX8_isAsSeen_49 rfl ?_
            refine V_goto (tgt := 54) dX8_isAsSeen_50 (by decide) ?_
            refine V_istore_n (L' := [_, _, _, _, _]) dX8_isAsSeen_54 (by decide) rfl rfl ?_
            refine V_iinc (v := _ + (1)) (L' := [_, _, _, _, _]) dX8_isAsSeen_55 (by decide) rfl rfl rfl rfl ?_
            refine V_goto (tgt := 5) dX8_isAsSeen_58 (by decide) ?_
            refine ih (i + 1) _ _ (by omega) (ix_add hz (by decide) (by omega)) ?_
            rw [hr9, b01_0] at c18
            by_cases hq : sSeen (mi 174) (i + 1) x y
            · obtain ⟨h1, h2⟩ := ball_succ.mp hq
              first
              | (rw [b01_t hq]; done)
              | exact absurd h1 c18
              | exact absurd (h2 c32) c46
            · first
              | (rw [b01_f hq]; done)
              | exact absurd (ball_succ.mpr (And.intro (Classical.not_not.mp c18) (fun e => absurd e c32))) hq
              | exact absurd (ball_succ.mpr (And.intro (Classical.not_not.mp c18) (fun _ => c46))) hq
  exact loop (cS c) 0 _ _ (by omega) (by decide) (by rw [b01_t (fun j hj => absurd hj (by omega))])
set_option maxRecDepth 4000 in
theorem qX7_drank (n : Nat) (mi : MI) (mr : MR) (c : CT) (I : INV n mi mr c) (p : Int32) : Ct KX7_drank 6 0 0 [.ref 32, .int p] n mi mr (eqQ (some (.int (sDrank (mi 174) (cW c) (cS c) p))) n (mi) mr) := by
  refine Ct.of2 [some (.ref 32), some (.int p), none, none, none] (by decide +kernel) (Nat.le_of_ble_eq_true rfl) rfl ?_
  obtain ⟨hR, hn, ⟨⟨hN, hN6⟩, ⟨hW, hW5⟩, ⟨hL, hL5⟩, ⟨hT, hT100⟩, ⟨hS, hS5⟩, ⟨hP, hP8⟩, ⟨hBk, hB8⟩⟩, hrw⟩ := I.facts
  have hBD := I.2.2.1
  obtain ⟨⟨r1, r2, r3, r4, r5⟩, hper, hvin, htape, hseen, hnight, hbook⟩ := id hrw
  have hcN : nat (mi 40 1) (cN c) := by rw [r2]; exact hN
  have hcW : nat (mi 40 2) (cW c) := by rw [r3]; exact hW
  clear I
  refine V_aload_n dX7_drank_0 rfl ?_
  refine V_iload_n dX7_drank_1 rfl ?_
  refine V_callV (ci := 7) (qX7_isOne _ _ _ hR hn _) dX7_drank_2 mlX7_105 mtX7_isOne ivX7_isOne rfl rfl ⟨by omega, by omega⟩ (by decide) rfl rfl (by decide) (Nat.le_of_ble_eq_true rfl) rfl rfl ?_
  rintro _ _ _ _ ⟨rfl, rfl, rfl, rfl⟩
  refine V_if_ne (tgt := 10) dX7_drank_5 (by decide) (fun c5 => ?_) (fun c5 => ?_)
  · obtain ⟨a, ha1, ha2⟩ := idxC c5 hcN
    refine V_aload_n dX7_drank_10 rfl ?_
    refine V_getr (b := 40) 7 1 dX7_drank_11 (Or.inl lkX7_30) rfl rfl ⟨by omega, by omega⟩ (hR _ _ _ rfl) ?_
    refine V_getr (b := 41) 6 6 dX7_drank_14 lnX7_85 rfl rfl ⟨by omega, by omega⟩ (hR _ _ _ rfl) ?_
    refine V_iload_n dX7_drank_17 rfl ?_
    refine V_aald (len := 6) (b := (58 + 2 * a)) 5 a dX7_drank_18 rfl rfl ⟨by omega, by omega⟩ ha1 (by omega) (hR _ _ _ (rFolk (Or.inl rfl) (by omega))) ?_
    refine V_astore_n (L' := [_, _, _, _, _]) dX7_drank_19 (by decide) rfl rfl ?_
    refine V_aload_n dX7_drank_20 rfl ?_
    refine V_getr (b := 40) 7 1 dX7_drank_21 (Or.inl lkX7_30) rfl rfl ⟨by omega, by omega⟩ (hR _ _ _ rfl) ?_
    refine V_iload_n dX7_drank_24 rfl ?_
    refine V_iconst (v := -1) dX7_drank_25 rfl ?_
    refine V_aload_n dX7_drank_26 rfl ?_
    refine V_geti 1 3 dX7_drank_27 lnX7_114 rfl (sP (pOf (Or.inl rfl) (by omega))) ⟨by omega, by omega⟩ ?_
    refine V_aload_n dX7_drank_30 rfl ?_
    refine V_geti 1 2 dX7_drank_31 lnX7_111 rfl (sP (pOf (Or.inl rfl) (by omega))) ⟨by omega, by omega⟩ ?_
    refine V_callV (ci := 6) (qX6_isAsSeen _ _ _ hR hn _ (Or.inl rfl) (cS c) (hseen.1.symm ▸ hS) hS5 _ _ _ _ a ha1 (by omega) (Or.inl rfl)) dX7_drank_34 mlX7_206 mtX6_isAsSeen ivX6_isAsSeen rfl rfl ⟨by omega, by omega⟩ (by decide) rfl rfl (by decide) (Nat.le_of_ble_eq_true rfl) rfl rfl ?_
    rintro _ _ _ _ ⟨rfl, rfl, rfl, rfl⟩
    rw [show cAgeHad mi (40 + 18 + 2 * a) (mi 40 0) (cY mi 40 (-1)) (mi (58 + 2 * a) 3) (mi (58 + 2 * a) 2) = sAge (mi 174) a (-1) from age_eq hBD hrw ha2 (Or.inl rfl), show b01 (asSeen mi (40 + 5) (cS c) p (sAge (mi 174) a (-1))) = b01 (sSeen (mi 174) (cS c) p (sAge (mi 174) a (-1))) from b01_iff (seen_eq hrw)]
    refine V_if_eq (tgt := 45) dX7_drank_37 (by decide) (fun c37 => ?_) (fun c37 => ?_)
    · refine V_iconst (v := 0) dX7_drank_45 rfl ?_
      refine V_istore_n (L' := [_, _, _, _, _]) dX7_drank_46 (by decide) rfl rfl ?_
      refine V_iconst (v := 0) dX7_drank_47 rfl ?_
      refine V_istore (L' := [_, _, _, _, _]) dX7_drank_48 (by decide) rfl rfl ?_
      have loop : ∀ (m i : Nat) (acc z : Int32), i + m = cW c → z.toInt = (i : Int) → acc = bitsFrom (if sSeen (mi 174) (cS c) p (sAge (mi 174) a (-1)) then 32 else 0) (drankB (mi 174) (cS c) a p) i → V KX7_drank 6 0 0 (eqQ (some (.int (sDrank (mi 174) (cW c) (cS c) p))) n (mi) mr) 50 [some (.ref 32), some (.int p), some (.ref (58 + 2 * a)), some (.int acc), some (.int z)] [] n mi mr := by
        intro m
        induction m with
        | zero =>
          intro i acc z him hz ha
          refine V_iload dX7_drank_50 rfl ?_
          refine V_aload_n dX7_drank_52 rfl ?_
          refine V_getr (b := 40) 7 1 dX7_drank_53 (Or.inl lkX7_30) rfl rfl ⟨by omega, by omega⟩ (hR _ _ _ rfl) ?_
          refine V_geti 6 2 dX7_drank_56 lnX7_98 rfl rfl ⟨by omega, by omega⟩ ?_
          refine V_icmp_ge (tgt := 96) dX7_drank_59 (by decide) (fun c59 => ?_) (fun c59 => absurd ((le_nat hcW hz).mpr (by omega)) c59)
          refine V_iload_n dX7_drank_96 rfl ?_
          refine V_iret dX7_drank_97 rfl rfl ?_
          have hi : i = cW c := by omega
          subst hi
          refine ⟨?_, rfl, rfl, rfl⟩
          unfold sDrank
          rw [if_pos (by rw [← r2]; exact b01_n.mp c5), nat_of_toInt ha1, ha]
        | succ m ih =>
          intro i acc z him hz ha
          refine V_iload dX7_drank_50 rfl ?_
          refine V_aload_n dX7_drank_52 rfl ?_
          refine V_getr (b := 40) 7 1 dX7_drank_53 (Or.inl lkX7_30) rfl rfl ⟨by omega, by omega⟩ (hR _ _ _ rfl) ?_
          refine V_geti 6 2 dX7_drank_56 lnX7_98 rfl rfl ⟨by omega, by omega⟩ ?_
          refine V_icmp_ge (tgt := 96) dX7_drank_59 (by decide) (fun c59 => absurd ((le_nat hcW hz).mp c59) (by omega)) (fun c59 => ?_)
          refine V_aload_n dX7_drank_62 rfl ?_
          refine V_getr (b := 40) 7 1 dX7_drank_63 (Or.inl lkX7_30) rfl rfl ⟨by omega, by omega⟩ (hR _ _ _ rfl) ?_
          refine V_iload_n dX7_drank_66 rfl ?_
          refine V_iload dX7_drank_67 rfl ?_
          refine V_aload_n dX7_drank_69 rfl ?_
          refine V_geti 1 3 dX7_drank_70 lnX7_114 rfl (sP (pOf (Or.inl rfl) (by omega))) ⟨by omega, by omega⟩ ?_
          refine V_aload_n dX7_drank_73 rfl ?_
          refine V_geti 1 2 dX7_drank_74 lnX7_111 rfl (sP (pOf (Or.inl rfl) (by omega))) ⟨by omega, by omega⟩ ?_
          refine V_callV (ci := 6) (qX6_isAsSeen _ _ _ hR hn _ (Or.inl rfl) (cS c) (hseen.1.symm ▸ hS) hS5 _ _ _ _ a ha1 (by omega) (Or.inr ⟨i, hz, by omega⟩)) dX7_drank_77 mlX7_206 mtX6_isAsSeen ivX6_isAsSeen rfl rfl ⟨by omega, by omega⟩ (by decide) rfl rfl (by decide) (Nat.le_of_ble_eq_true rfl) rfl rfl ?_
          rintro _ _ _ _ ⟨rfl, rfl, rfl, rfl⟩
          rw [show cAgeHad mi (40 + 18 + 2 * a) (mi 40 0) (cY mi 40 z) (mi (58 + 2 * a) 3) (mi (58 + 2 * a) 2) = sAge (mi 174) a z from age_eq hBD hrw ha2 (Or.inr ⟨i, hz, by omega⟩), show b01 (asSeen mi (40 + 5) (cS c) p (sAge (mi 174) a z)) = b01 (sSeen (mi 174) (cS c) p (sAge (mi 174) a z)) from b01_iff (seen_eq hrw)]
          refine V_if_eq (tgt := 90) dX7_drank_80 (by decide) (fun c80 => ?_) (fun c80 => ?_)
          · refine V_iinc (v := _ + (1)) (L' := [_, _, _, _, _]) dX7_drank_90 (by decide) rfl rfl rfl rfl ?_
            refine V_goto (tgt := 50) dX7_drank_93 (by decide) ?_
            simp only [b01_0, Classical.not_not] at c80
            refine ih (i + 1) _ _ (by omega) (ix_add hz (by decide) (by omega)) ?_
            rw [nI_of_toInt hz] at c80
            by_cases hq : sSeen (mi 174) (cS c) p (sAge (mi 174) a (nI i))
            · first
              | (rw [bitsFrom, if_pos (decide_eq_true hq), ha, nI_of_toInt hz]; done)
              | exact absurd hq c80
            · first
              | (rw [bitsFrom, if_neg (fun h => hq (of_decide_eq_true h)), ha]; done)
              | exact absurd c80 hq
          · refine V_iload_n dX7_drank_83 rfl ?_
            refine V_iconst (v := 1) dX7_drank_84 rfl ?_
            refine V_iload dX7_drank_85 rfl ?_
            refine V_ishl dX7_drank_87 ?_
            refine V_ior dX7_drank_88 ?_
            refine V_istore_n (L' := [_, _, _, _, _]) dX7_drank_89 (by decide) rfl rfl ?_
            refine V_iinc (v := _ + (1)) (L' := [_, _, _, _, _]) dX7_drank_90 (by decide) rfl rfl rfl rfl ?_
            refine V_goto (tgt := 50) dX7_drank_93 (by decide) ?_
            simp only [b01_0, Classical.not_not] at c80
            refine ih (i + 1) _ _ (by omega) (ix_add hz (by decide) (by omega)) ?_
            rw [nI_of_toInt hz] at c80
            by_cases hq : sSeen (mi 174) (cS c) p (sAge (mi 174) a (nI i))
            · first
              | (rw [bitsFrom, if_pos (decide_eq_true hq), ha, nI_of_toInt hz]; done)
              | exact absurd hq c80
            · first
              | (rw [bitsFrom, if_neg (fun h => hq (of_decide_eq_true h)), ha]; done)
              | exact absurd c80 hq
      simp only [b01_0, Classical.not_not] at c37
      exact loop (cW c) 0 _ _ (by omega) (by decide) (by first | exact (if_pos c37).symm | exact (if_neg c37).symm)
    · refine V_bipush (v := 32) dX7_drank_40 rfl ?_
      refine V_goto (tgt := 46) dX7_drank_42 (by decide) ?_
      refine V_istore_n (L' := [_, _, _, _, _]) dX7_drank_46 (by decide) rfl rfl ?_
      refine V_iconst (v := 0) dX7_drank_47 rfl ?_
      refine V_istore (L' := [_, _, _, _, _]) dX7_drank_48 (by decide) rfl rfl ?_
      have loop : ∀ (m i : Nat) (acc z : Int32), i + m = cW c → z.toInt = (i : Int) → acc = bitsFrom (if sSeen (mi 174) (cS c) p (sAge (mi 174) a (-1)) then 32 else 0) (drankB (mi 174) (cS c) a p) i → V KX7_drank 6 0 0 (eqQ (some (.int (sDrank (mi 174) (cW c) (cS c) p))) n (mi) mr) 50 [some (.ref 32), some (.int p), some (.ref (58 + 2 * a)), some (.int acc), some (.int z)] [] n mi mr := by
        intro m
        induction m with
        | zero =>
          intro i acc z him hz ha
          refine V_iload dX7_drank_50 rfl ?_
          refine V_aload_n dX7_drank_52 rfl ?_
          refine V_getr (b := 40) 7 1 dX7_drank_53 (Or.inl lkX7_30) rfl rfl ⟨by omega, by omega⟩ (hR _ _ _ rfl) ?_
          refine V_geti 6 2 dX7_drank_56 lnX7_98 rfl rfl ⟨by omega, by omega⟩ ?_
          refine V_icmp_ge (tgt := 96) dX7_drank_59 (by decide) (fun c59 => ?_) (fun c59 => absurd ((le_nat hcW hz).mpr (by omega)) c59)
          refine V_iload_n dX7_drank_96 rfl ?_
          refine V_iret dX7_drank_97 rfl rfl ?_
          have hi : i = cW c := by omega
          subst hi
          refine ⟨?_, rfl, rfl, rfl⟩
          unfold sDrank
          rw [if_pos (by rw [← r2]; exact b01_n.mp c5), nat_of_toInt ha1, ha]
        | succ m ih =>
          intro i acc z him hz ha
          refine V_iload dX7_drank_50 rfl ?_
          refine V_aload_n dX7_drank_52 rfl ?_
          refine V_getr (b := 40) 7 1 dX7_drank_53 (Or.inl lkX7_30) rfl rfl ⟨by omega, by omega⟩ (hR _ _ _ rfl) ?_
          refine V_geti 6 2 dX7_drank_56 lnX7_98 rfl rfl ⟨by omega, by omega⟩ ?_
          refine V_icmp_ge (tgt := 96) dX7_drank_59 (by decide) (fun c59 => absurd ((le_nat hcW hz).mp c59) (by omega)) (fun c59 => ?_)
          refine V_aload_n dX7_drank_62 rfl ?_
          refine V_getr (b := 40) 7 1 dX7_drank_63 (Or.inl lkX7_30) rfl rfl ⟨by omega, by omega⟩ (hR _ _ _ rfl) ?_
          refine V_iload_n dX7_drank_66 rfl ?_
          refine V_iload dX7_drank_67 rfl ?_
          refine V_aload_n dX7_drank_69 rfl ?_
          refine V_geti 1 3 dX7_drank_70 lnX7_114 rfl (sP (pOf (Or.inl rfl) (by omega))) ⟨by omega, by omega⟩ ?_
          refine V_aload_n dX7_drank_73 rfl ?_
          refine V_geti 1 2 dX7_drank_74 lnX7_111 rfl (sP (pOf (Or.inl rfl) (by omega))) ⟨by omega, by omega⟩ ?_
          refine V_callV (ci := 6) (qX6_isAsSeen _ _ _ hR hn _ (Or.inl rfl) (cS c) (hseen.1.symm ▸ hS) hS5 _ _ _ _ a ha1 (by omega) (Or.inr ⟨i, hz, by omega⟩)) dX7_drank_77 mlX7_206 mtX6_isAsSeen ivX6_isAsSeen rfl rfl ⟨by omega, by omega⟩ (by decide) rfl rfl (by decide) (Nat.le_of_ble_eq_true rfl) rfl rfl ?_
          rintro _ _ _ _ ⟨rfl, rfl, rfl, rfl⟩
          rw [show cAgeHad mi (40 + 18 + 2 * a) (mi 40 0) (cY mi 40 z) (mi (58 + 2 * a) 3) (mi (58 + 2 * a) 2) = sAge (mi 174) a z from age_eq hBD hrw ha2 (Or.inr ⟨i, hz, by omega⟩), show b01 (asSeen mi (40 + 5) (cS c) p (sAge (mi 174) a z)) = b01 (sSeen (mi 174) (cS c) p (sAge (mi 174) a z)) from b01_iff (seen_eq hrw)]
          refine V_if_eq (tgt := 90) dX7_drank_80 (by decide) (fun c80 => ?_) (fun c80 => ?_)
          · refine V_iinc (v := _ + (1)) (L' := [_, _, _, _, _]) dX7_drank_90 (by decide) rfl rfl rfl rfl ?_
            refine V_goto (tgt := 50) dX7_drank_93 (by decide) ?_
            simp only [b01_0, Classical.not_not] at c80
            refine ih (i + 1) _ _ (by omega) (ix_add hz (by decide) (by omega)) ?_
            rw [nI_of_toInt hz] at c80
            by_cases hq : sSeen (mi 174) (cS c) p (sAge (mi 174) a (nI i))
            · first
              | (rw [bitsFrom, if_pos (decide_eq_true hq), ha, nI_of_toInt hz]; done)
              | exact absurd hq c80
            · first
              | (rw [bitsFrom, if_neg (fun h => hq (of_decide_eq_true h)), ha]; done)
              | exact absurd c80 hq
          · refine V_iload_n dX7_drank_83 rfl ?_
            refine V_iconst (v := 1) dX7_drank_84 rfl ?_
            refine V_iload dX7_drank_85 rfl ?_
            refine V_ishl dX7_drank_87 ?_
            refine V_ior dX7_drank_88 ?_
            refine V_istore_n (L' := [_, _, _, _, _]) dX7_drank_89 (by decide) rfl rfl ?_
            refine V_iinc (v := _ + (1)) (L' := [_, _, _, _, _]) dX7_drank_90 (by decide) rfl rfl rfl rfl ?_
            refine V_goto (tgt := 50) dX7_drank_93 (by decide) ?_
            simp only [b01_0, Classical.not_not] at c80
            refine ih (i + 1) _ _ (by omega) (ix_add hz (by decide) (by omega)) ?_
            rw [nI_of_toInt hz] at c80
            by_cases hq : sSeen (mi 174) (cS c) p (sAge (mi 174) a (nI i))
            · first
              | (rw [bitsFrom, if_pos (decide_eq_true hq), ha, nI_of_toInt hz]; done)
              | exact absurd hq c80
            · first
              | (rw [bitsFrom, if_neg (fun h => hq (of_decide_eq_true h)), ha]; done)
              | exact absurd c80 hq
      simp only [b01_0, Classical.not_not] at c37
      exact loop (cW c) 0 _ _ (by omega) (by decide) (by first | exact (if_pos c37).symm | exact (if_neg c37).symm)
  · refine V_iconst (v := -1) dX7_drank_8 rfl ?_
    refine V_iret dX7_drank_9 rfl rfl ?_
    clear hR
    (try simp only [b01_0, b01_n] at *)
    refine ⟨?_, rfl, ?_, rfl⟩
    all_goals (simp only [sDrank]; (try simp only [r2]); repeat' split)
    all_goals first | rfl | (exfalso; simp only [Int32.lt_iff_toInt_lt, Int32.le_iff_toInt_le, ← Int32.toInt_inj, Int32.reduceToInt] at *; omega)
set_option maxRecDepth 4000 in
theorem qX8_drank (n : Nat) (mi : MI) (mr : MR) (c : CT) (hR : RF mr) (hn : 186 ≤ n) (hBD : BD (mi 174) c) (p : Int32) : Ct KX8_drank 6 0 0 [.ref 173, .int p] n mi mr (eqQ (some (.int (sDrank (mi 174) (cW c) (cS c) p))) n (mi) mr) := by
  refine Ct.of2 [some (.ref 173), some (.int p), none, none] (by decide +kernel) (Nat.le_of_ble_eq_true rfl) rfl ?_
  obtain ⟨⟨hN, hN6⟩, ⟨hW, hW5⟩, ⟨hL, hL5⟩, ⟨hT, hT100⟩, ⟨hS, hS5⟩, ⟨hP, hP8⟩, ⟨hBk, hB8⟩⟩ := hBD.1
  refine V_aload_n dX8_drank_0 rfl ?_
  refine V_iload_n dX8_drank_1 rfl ?_
  refine V_callV (ci := 8) (qX8_isPerson _ _ _ hR hn _) dX8_drank_2 mlX8_169 mtX8_isPerson ivX8_isPerson rfl rfl ⟨by omega, by omega⟩ (by decide) rfl rfl (by decide) (Nat.le_of_ble_eq_true rfl) rfl rfl ?_
  rintro _ _ _ _ ⟨rfl, rfl, rfl, rfl⟩
  simp only [leSub hN (by omega)]
  refine V_if_ne (tgt := 10) dX8_drank_5 (by decide) (fun c5 => ?_) (fun c5 => ?_)
  · obtain ⟨a, ha1, ha2⟩ := idxC c5 hN
    refine V_aload_n dX8_drank_10 rfl ?_
    refine V_iload_n dX8_drank_11 rfl ?_
    refine V_aload_n dX8_drank_12 rfl ?_
    refine V_iload_n dX8_drank_13 rfl ?_
    refine V_iconst (v := -1) dX8_drank_14 rfl ?_
    refine V_callV (ci := 8) (qX8_ageBy _ _ _ hR hn _ _ a ha1 (by omega) (Or.inl rfl) hBD.okS.2.1) dX8_drank_15 mlX8_146 mtX8_ageBy ivX8_ageBy rfl rfl ⟨by omega, by omega⟩ (by decide) rfl rfl (by decide) (Nat.le_of_ble_eq_true rfl) rfl rfl ?_
    rintro _ _ _ _ ⟨rfl, rfl, rfl, rfl⟩
    refine V_callV (ci := 8) (qX8_isAsSeen _ _ _ c hR hn hBD _ _) dX8_drank_18 mlX8_246 mtX8_isAsSeen ivX8_isAsSeen rfl rfl ⟨by omega, by omega⟩ (by decide) rfl rfl (by decide) (Nat.le_of_ble_eq_true rfl) rfl rfl ?_
    rintro _ _ _ _ ⟨rfl, rfl, rfl, rfl⟩
    refine V_if_eq (tgt := 29) dX8_drank_21 (by decide) (fun c21 => ?_) (fun c21 => ?_)
    · refine V_iconst (v := 0) dX8_drank_29 rfl ?_
      refine V_istore_n (L' := [_, _, _, _]) dX8_drank_30 (by decide) rfl rfl ?_
      refine V_iconst (v := 0) dX8_drank_31 rfl ?_
      refine V_istore_n (L' := [_, _, _, _]) dX8_drank_32 (by decide) rfl rfl ?_
      have loop : ∀ (m i : Nat) (acc z : Int32), i + m = cW c → z.toInt = (i : Int) → acc = bitsFrom (if sSeen (mi 174) (cS c) p (sAge (mi 174) a (-1)) then 32 else 0) (drankB (mi 174) (cS c) a p) i → V KX8_drank 6 0 0 (eqQ (some (.int (sDrank (mi 174) (cW c) (cS c) p))) n (mi) mr) 33 [some (.ref 173), some (.int p), some (.int acc), some (.int z)] [] n mi mr := by
        intro m
        induction m with
        | zero =>
          intro i acc z him hz ha
          refine V_iload_n dX8_drank_33 rfl ?_
          refine V_aload_n dX8_drank_34 rfl ?_
          refine V_getr (b := 174) 8 1 dX8_drank_35 (Or.inl lkX8_9) rfl rfl ⟨by omega, by omega⟩ (hR _ _ _ rfl) ?_
          refine V_bipush (v := 19) dX8_drank_38 rfl ?_
          refine V_iald (len := 938) 19 dX8_drank_40 rfl ⟨by omega, by omega⟩ (by decide) (by omega) ?_
          refine V_icmp_ge (tgt := 74) dX8_drank_41 (by decide) (fun c41 => ?_) (fun c41 => absurd ((le_nat hW hz).mpr (by omega)) c41)
          refine V_iload_n dX8_drank_74 rfl ?_
          refine V_iret dX8_drank_75 rfl rfl ?_
          have hi : i = cW c := by omega
          subst hi
          refine ⟨?_, rfl, rfl, rfl⟩
          unfold sDrank
          rw [if_pos (b01_n.mp c5), nat_of_toInt ha1, ha]
        | succ m ih =>
          intro i acc z him hz ha
          refine V_iload_n dX8_drank_33 rfl ?_
          refine V_aload_n dX8_drank_34 rfl ?_
          refine V_getr (b := 174) 8 1 dX8_drank_35 (Or.inl lkX8_9) rfl rfl ⟨by omega, by omega⟩ (hR _ _ _ rfl) ?_
          refine V_bipush (v := 19) dX8_drank_38 rfl ?_
          refine V_iald (len := 938) 19 dX8_drank_40 rfl ⟨by omega, by omega⟩ (by decide) (by omega) ?_
          refine V_icmp_ge (tgt := 74) dX8_drank_41 (by decide) (fun c41 => absurd ((le_nat hW hz).mp c41) (by omega)) (fun c41 => ?_)
          refine V_iload_n dX8_drank_44 rfl ?_
          refine V_aload_n dX8_drank_45 rfl ?_
          refine V_iload_n dX8_drank_46 rfl ?_
          refine V_aload_n dX8_drank_47 rfl ?_
          refine V_iload_n dX8_drank_48 rfl ?_
          refine V_iload_n dX8_drank_49 rfl ?_
          refine V_callV (ci := 8) (qX8_ageBy _ _ _ hR hn _ _ a ha1 (by omega) (Or.inr ⟨i, hz, by omega⟩) hBD.okS.2.1) dX8_drank_50 mlX8_146 mtX8_ageBy ivX8_ageBy rfl rfl ⟨by omega, by omega⟩ (by decide) rfl rfl (by decide) (Nat.le_of_ble_eq_true rfl) rfl rfl ?_
          rintro _ _ _ _ ⟨rfl, rfl, rfl, rfl⟩
          refine V_callV (ci := 8) (qX8_isAsSeen _ _ _ c hR hn hBD _ _) dX8_drank_53 mlX8_246 mtX8_isAsSeen ivX8_isAsSeen rfl rfl ⟨by omega, by omega⟩ (by decide) rfl rfl (by decide) (Nat.le_of_ble_eq_true rfl) rfl rfl ?_
          rintro _ _ _ _ ⟨rfl, rfl, rfl, rfl⟩
          refine V_if_eq (tgt := 65) dX8_drank_56 (by decide) (fun c56 => ?_) (fun c56 => ?_)
          · refine V_iconst (v := 0) dX8_drank_65 rfl ?_
            refine V_ior dX8_drank_66 ?_
            refine V_istore_n (L' := [_, _, _, _]) dX8_drank_67 (by decide) rfl rfl ?_
            refine V_iinc (v := _ + (1)) (L' := [_, _, _, _]) dX8_drank_68 (by decide) rfl rfl rfl rfl ?_
            refine V_goto (tgt := 33) dX8_drank_71 (by decide) ?_
            simp only [b01_0, Classical.not_not] at c56
            refine ih (i + 1) _ _ (by omega) (ix_add hz (by decide) (by omega)) ?_
            rw [nI_of_toInt hz] at c56
            by_cases hq : sSeen (mi 174) (cS c) p (sAge (mi 174) a (nI i))
            · first
              | (rw [bitsFrom, if_pos (decide_eq_true hq), ha, nI_of_toInt hz]; done)
              | exact absurd hq c56
            · first
              | (rw [bitsFrom, if_neg (fun h => hq (of_decide_eq_true h)), ha, Int32.or_zero]; done)
              | exact absurd c56 hq
          · refine V_iconst (v := 1) dX8_drank_59 rfl ?_
            refine V_iload_n dX8_drank_60 rfl ?_
            refine V_ishl dX8_drank_61 ?_
            refine V_goto (tgt := 66) dX8_drank_62 (by decide) ?_
            refine V_ior dX8_drank_66 ?_
            refine V_istore_n (L' := [_, _, _, _]) dX8_drank_67 (by decide) rfl rfl ?_
            refine V_iinc (v := _ + (1)) (L' := [_, _, _, _]) dX8_drank_68 (by decide) rfl rfl rfl rfl ?_
            refine V_goto (tgt := 33) dX8_drank_71 (by decide) ?_
            simp only [b01_0, Classical.not_not] at c56
            refine ih (i + 1) _ _ (by omega) (ix_add hz (by decide) (by omega)) ?_
            rw [nI_of_toInt hz] at c56
            by_cases hq : sSeen (mi 174) (cS c) p (sAge (mi 174) a (nI i))
            · first
              | (rw [bitsFrom, if_pos (decide_eq_true hq), ha, nI_of_toInt hz]; done)
              | exact absurd hq c56
            · first
              | (rw [bitsFrom, if_neg (fun h => hq (of_decide_eq_true h)), ha, Int32.or_zero]; done)
              | exact absurd c56 hq
      simp only [b01_0, Classical.not_not] at c21
      exact loop (cW c) 0 _ _ (by omega) (by decide) (by first | exact (if_pos c21).symm | exact (if_neg c21).symm)
    · refine V_bipush (v := 32) dX8_drank_24 rfl ?_
      refine V_goto (tgt := 30) dX8_drank_26 (by decide) ?_
      refine V_istore_n (L' := [_, _, _, _]) dX8_drank_30 (by decide) rfl rfl ?_
      refine V_iconst (v := 0) dX8_drank_31 rfl ?_
      refine V_istore_n (L' := [_, _, _, _]) dX8_drank_32 (by decide) rfl rfl ?_
      have loop : ∀ (m i : Nat) (acc z : Int32), i + m = cW c → z.toInt = (i : Int) → acc = bitsFrom (if sSeen (mi 174) (cS c) p (sAge (mi 174) a (-1)) then 32 else 0) (drankB (mi 174) (cS c) a p) i → V KX8_drank 6 0 0 (eqQ (some (.int (sDrank (mi 174) (cW c) (cS c) p))) n (mi) mr) 33 [some (.ref 173), some (.int p), some (.int acc), some (.int z)] [] n mi mr := by
        intro m
        induction m with
        | zero =>
          intro i acc z him hz ha
          refine V_iload_n dX8_drank_33 rfl ?_
          refine V_aload_n dX8_drank_34 rfl ?_
          refine V_getr (b := 174) 8 1 dX8_drank_35 (Or.inl lkX8_9) rfl rfl ⟨by omega, by omega⟩ (hR _ _ _ rfl) ?_
          refine V_bipush (v := 19) dX8_drank_38 rfl ?_
          refine V_iald (len := 938) 19 dX8_drank_40 rfl ⟨by omega, by omega⟩ (by decide) (by omega) ?_
          refine V_icmp_ge (tgt := 74) dX8_drank_41 (by decide) (fun c41 => ?_) (fun c41 => absurd ((le_nat hW hz).mpr (by omega)) c41)
          refine V_iload_n dX8_drank_74 rfl ?_
          refine V_iret dX8_drank_75 rfl rfl ?_
          have hi : i = cW c := by omega
          subst hi
          refine ⟨?_, rfl, rfl, rfl⟩
          unfold sDrank
          rw [if_pos (b01_n.mp c5), nat_of_toInt ha1, ha]
        | succ m ih =>
          intro i acc z him hz ha
          refine V_iload_n dX8_drank_33 rfl ?_
          refine V_aload_n dX8_drank_34 rfl ?_
          refine V_getr (b := 174) 8 1 dX8_drank_35 (Or.inl lkX8_9) rfl rfl ⟨by omega, by omega⟩ (hR _ _ _ rfl) ?_
          refine V_bipush (v := 19) dX8_drank_38 rfl ?_
          refine V_iald (len := 938) 19 dX8_drank_40 rfl ⟨by omega, by omega⟩ (by decide) (by omega) ?_
          refine V_icmp_ge (tgt := 74) dX8_drank_41 (by decide) (fun c41 => absurd ((le_nat hW hz).mp c41) (by omega)) (fun c41 => ?_)
          refine V_iload_n dX8_drank_44 rfl ?_
          refine V_aload_n dX8_drank_45 rfl ?_
          refine V_iload_n dX8_drank_46 rfl ?_
          refine V_aload_n dX8_drank_47 rfl ?_
          refine V_iload_n dX8_drank_48 rfl ?_
          refine V_iload_n dX8_drank_49 rfl ?_
          refine V_callV (ci := 8) (qX8_ageBy _ _ _ hR hn _ _ a ha1 (by omega) (Or.inr ⟨i, hz, by omega⟩) hBD.okS.2.1) dX8_drank_50 mlX8_146 mtX8_ageBy ivX8_ageBy rfl rfl ⟨by omega, by omega⟩ (by decide) rfl rfl (by decide) (Nat.le_of_ble_eq_true rfl) rfl rfl ?_
          rintro _ _ _ _ ⟨rfl, rfl, rfl, rfl⟩
          refine V_callV (ci := 8) (qX8_isAsSeen _ _ _ c hR hn hBD _ _) dX8_drank_53 mlX8_246 mtX8_isAsSeen ivX8_isAsSeen rfl rfl ⟨by omega, by omega⟩ (by decide) rfl rfl (by decide) (Nat.le_of_ble_eq_true rfl) rfl rfl ?_
          rintro _ _ _ _ ⟨rfl, rfl, rfl, rfl⟩
          refine V_if_eq (tgt := 65) dX8_drank_56 (by decide) (fun c56 => ?_) (fun c56 => ?_)
          · refine V_iconst (v := 0) dX8_drank_65 rfl ?_
            refine V_ior dX8_drank_66 ?_
            refine V_istore_n (L' := [_, _, _, _]) dX8_drank_67 (by decide) rfl rfl ?_
            refine V_iinc (v := _ + (1)) (L' := [_, _, _, _]) dX8_drank_68 (by decide) rfl rfl rfl rfl ?_
            refine V_goto (tgt := 33) dX8_drank_71 (by decide) ?_
            simp only [b01_0, Classical.not_not] at c56
            refine ih (i + 1) _ _ (by omega) (ix_add hz (by decide) (by omega)) ?_
            rw [nI_of_toInt hz] at c56
            by_cases hq : sSeen (mi 174) (cS c) p (sAge (mi 174) a (nI i))
            · first
              | (rw [bitsFrom, if_pos (decide_eq_true hq), ha, nI_of_toInt hz]; done)
              | exact absurd hq c56
            · first
              | (rw [bitsFrom, if_neg (fun h => hq (of_decide_eq_true h)), ha, Int32.or_zero]; done)
              | exact absurd c56 hq
          · refine V_iconst (v := 1) dX8_drank_59 rfl ?_
            refine V_iload_n dX8_drank_60 rfl ?_
            refine V_ishl dX8_drank_61 ?_
            refine V_goto (tgt := 66) dX8_drank_62 (by decide) ?_
            refine V_ior dX8_drank_66 ?_
            refine V_istore_n (L' := [_, _, _, _]) dX8_drank_67 (by decide) rfl rfl ?_
            refine V_iinc (v := _ + (1)) (L' := [_, _, _, _]) dX8_drank_68 (by decide) rfl rfl rfl rfl ?_
            refine V_goto (tgt := 33) dX8_drank_71 (by decide) ?_
            simp only [b01_0, Classical.not_not] at c56
            refine ih (i + 1) _ _ (by omega) (ix_add hz (by decide) (by omega)) ?_
            rw [nI_of_toInt hz] at c56
            by_cases hq : sSeen (mi 174) (cS c) p (sAge (mi 174) a (nI i))
            · first
              | (rw [bitsFrom, if_pos (decide_eq_true hq), ha, nI_of_toInt hz]; done)
              | exact absurd hq c56
            · first
              | (rw [bitsFrom, if_neg (fun h => hq (of_decide_eq_true h)), ha, Int32.or_zero]; done)
              | exact absurd c56 hq
      simp only [b01_0, Classical.not_not] at c21
      exact loop (cW c) 0 _ _ (by omega) (by decide) (by first | exact (if_pos c21).symm | exact (if_neg c21).symm)
  · refine V_iconst (v := -1) dX8_drank_8 rfl ?_
    refine V_iret dX8_drank_9 rfl rfl ?_
    clear hR
    (try simp only [b01_0, b01_n] at *)
    refine ⟨?_, rfl, ?_, rfl⟩
    all_goals (simp only [sDrank]; repeat' split)
    all_goals first | rfl | (exfalso; simp only [Int32.lt_iff_toInt_lt, Int32.le_iff_toInt_le, ← Int32.toInt_inj, Int32.reduceToInt] at *; omega)
