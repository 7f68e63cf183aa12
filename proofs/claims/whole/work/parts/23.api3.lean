/-- the village at hv tells what the reference's holds -/
def HV (S : Nat → Int32) (mi : MI) (hv : Nat) : Prop := mi hv 0 = sTells S 223 18 ∧ mi hv 1 = sTells S 228 60
theorem INV.hv {n : Nat} {mi : MI} {mr : MR} {c : CT} (I : INV n mi mr c) : HV (mi 174) mi (hvOf (mi 174)) := by
  obtain ⟨-, -, hB, ⟨-, -, hvr, -⟩, h0, -⟩ := I
  unfold HV hvOf sTells
  by_cases e : mi 174 18 = -1
  · rw [if_pos e, if_pos e, if_pos e]
    exact ⟨h0.2.1, h0.2.2⟩
  · rw [if_neg e, if_neg e, if_neg e]
    obtain ⟨h, h1, h2⟩ := hB.2.2.1.resolve_left e
    rw [nat_of_toInt h1]
    obtain ⟨nc, es, k1, k2, k3, k4⟩ := hvr h h2
    exact ⟨k2, k3⟩
theorem BD.isV {S : Nat → Int32} {c : CT} (h : BD S c) : isV (hvOf S) := by
  unfold hvOf
  by_cases e : S 18 = -1
  · rw [if_pos e]
    exact Or.inl rfl
  · rw [if_neg e]
    obtain ⟨k, h1, h2⟩ := h.2.2.1.resolve_left e
    rw [nat_of_toInt h1]
    have := h.lim.2
    exact vOf (by omega)
theorem BD.okS {S : Nat → Int32} {c : CT} (h : BD S c) : okS S (cN c) := by
  have hl := h.lim.2
  have hw := h.1.2.1.2
  refine ⟨h.2.2.1.elim Or.inl (fun ⟨k, h1, h2⟩ => Or.inr ⟨k, h1, by omega⟩), fun k hk => ?_, fun p hp => (h.2.2.2.1 p hp).2.2.2.2.1.ok hw⟩
  obtain ⟨q, h1, h2⟩ := (h.2.2.2.2.1 k hk).1
  exact ⟨q, h1, by omega⟩
theorem stage_eq {S : Nat → Int32} {c : CT} {mi : MI} {w p hv : Nat} {a : Int32} (hr : RW S c mi w) (hp : p < cN c) (hh : HV S mi hv) : cStage mi w hv p a = sStage S p a := by
  unfold cStage sStage
  rw [(hr.2.1 p hp).2.2.2.1, hh.1, hh.2]
theorem fStage_pos {a l g o : Int32} : 0 < fStage a l g o ↔ (0 ≤ a ∧ a ≤ l) := by
  unfold fStage
  by_cases h : 0 ≤ a ∧ a ≤ l
  · rw [if_pos h]
    refine ⟨fun _ => h, fun _ => ?_⟩
    split
    · decide
    · split <;> decide
  · rw [if_neg h]
    exact ⟨fun q => absurd q (by decide), fun q => absurd q h⟩
theorem has_eq {S : Nat → Int32} {c : CT} {mi : MI} {w p : Nat} (hr : RW S c mi w) (hp : p < cN c) : cHas mi w p = S (1 + p) := (hr.2.1 p hp).2.2.2.2.1
theorem here_eq {S : Nat → Int32} {c : CT} {mi : MI} {w p hv : Nat} (hB : BD S c) (hr : RW S c mi w) (hp : p < cN c) (hh : HV S mi hv) : cHere mi w hv p = sHere S p := by
  unfold cHere sHere
  rw [stage_eq hr hp hh, has_eq hr hp, age_eq hB hr hp (hB.2.2.2.1 p hp).2.2.2.2.1]
  unfold sStage
  exact decide_eq_decide.mpr fStage_pos
theorem bitsTo_eq {f g : Nat → Bool} : ∀ {N : Nat}, (∀ p, p < N → f p = g p) → bitsTo f N = bitsTo g N
  | 0, _ => rfl
  | N + 1, h => by
    unfold bitsTo
    rw [h N (by omega), bitsTo_eq (fun p hp => h p (by omega))]
def lookTo (S : Nat → Int32) (i : Nat) : Nat → Int32
  | 0 => -5
  | m + 1 => if sAge S (S (107 + i)).toNatClampNeg (S (1 + (S (107 + i)).toNatClampNeg)) = S (115 + i) then lookTo S (i + 1) m else nI i
set_option maxRecDepth 4000 in
theorem qX7_looked (n : Nat) (mi : MI) (mr : MR) (c : CT) (I : INV n mi mr c)  : Ct KX7_looked 6 0 0 [.ref 32] n mi mr (eqQ (some (.int (lookTo (mi 174) 0 (cB c)))) n (mi) mr) := by
  refine Ct.of2 [some (.ref 32), none, none] (by decide +kernel) (Nat.le_of_ble_eq_true rfl) rfl ?_
  obtain ⟨hR, hn, ⟨⟨hN, hN6⟩, ⟨hW, hW5⟩, ⟨hL, hL5⟩, ⟨hT, hT100⟩, ⟨hS, hS5⟩, ⟨hP, hP8⟩, ⟨hBk, hB8⟩⟩, hrw⟩ := I.facts
  have hBD := I.2.2.1
  obtain ⟨⟨r1, r2, r3, r4, r5⟩, hper, hvin, htape, hseen, hnight, hbook⟩ := id hrw
  have hcN : nat (mi 40 1) (cN c) := by rw [r2]; exact hN
  have hcW : nat (mi 40 2) (cW c) := by rw [r3]; exact hW
  clear I
  refine V_iconst (v := 0) dX7_looked_0 rfl ?_
  refine V_istore_n (L' := [_, _, _]) dX7_looked_1 (by decide) rfl rfl ?_
  have loop : ∀ (m i : Nat) (x : Int32) (z : Option Value), i + m = cB c → x.toInt = (i : Int) → lookTo (mi 174) i m = lookTo (mi 174) 0 (cB c) → V KX7_looked 6 0 0 (eqQ (some (.int (lookTo (mi 174) 0 (cB c)))) n (mi) mr) 2 [some (.ref 32), some (.int x), z] [] n mi mr := by
    intro m
    induction m with
    | zero =>
      intro i x z him hx he
      refine V_iload_n dX7_looked_2 rfl ?_
      refine V_aload_n dX7_looked_3 rfl ?_
      refine V_getr (b := 40) 7 1 dX7_looked_4 (Or.inl lkX7_30) rfl rfl ⟨by omega, by omega⟩ (hR _ _ _ rfl) ?_
      refine V_getr (b := 53) 6 12 dX7_looked_7 lnX7_238 rfl rfl ⟨by omega, by omega⟩ (hR _ _ _ rfl) ?_
      refine V_geti 3 3 dX7_looked_10 lnX7_241 rfl rfl ⟨by omega, by omega⟩ ?_
      refine V_icmp_ge (tgt := 72) dX7_looked_13 (by decide) (fun c13 => ?_) (fun c13 => absurd ((le_nat (hbook.1.symm ▸ hBk) hx).mpr (by omega)) c13)
      refine V_bipush (v := -5) dX7_looked_72 rfl ?_
      refine V_iret dX7_looked_74 rfl rfl ?_
      refine ⟨?_, rfl, rfl, rfl⟩
      rw [← he]
      rfl
    | succ m ih =>
      intro i x z him hx he
      refine V_iload_n dX7_looked_2 rfl ?_
      refine V_aload_n dX7_looked_3 rfl ?_
      refine V_getr (b := 40) 7 1 dX7_looked_4 (Or.inl lkX7_30) rfl rfl ⟨by omega, by omega⟩ (hR _ _ _ rfl) ?_
      refine V_getr (b := 53) 6 12 dX7_looked_7 lnX7_238 rfl rfl ⟨by omega, by omega⟩ (hR _ _ _ rfl) ?_
      refine V_geti 3 3 dX7_looked_10 lnX7_241 rfl rfl ⟨by omega, by omega⟩ ?_
      refine V_icmp_ge (tgt := 72) dX7_looked_13 (by decide) (fun c13 => absurd ((le_nat (hbook.1.symm ▸ hBk) hx).mp c13) (by omega)) (fun c13 => ?_)
      refine V_aload_n dX7_looked_16 rfl ?_
      refine V_getr (b := 40) 7 1 dX7_looked_17 (Or.inl lkX7_30) rfl rfl ⟨by omega, by omega⟩ (hR _ _ _ rfl) ?_
      refine V_getr (b := 53) 6 12 dX7_looked_20 lnX7_238 rfl rfl ⟨by omega, by omega⟩ (hR _ _ _ rfl) ?_
      refine V_getr (b := 55) 3 1 dX7_looked_23 lnX7_244 rfl rfl ⟨by omega, by omega⟩ (hR _ _ _ (rR (Or.inr (Or.inr ⟨40, (Or.inl rfl), rfl, rfl⟩)) (k := 1) (by omega))) ?_
      refine V_iload_n dX7_looked_26 rfl ?_
      obtain ⟨p, p1, p2⟩ := hBD.2.2.2.2.2.2.2.1 i (by omega)
      obtain ⟨q1, q2, q3, q4⟩ := hrw.hasP p2
      rw [show (40 + 18 : Nat) = 58 from rfl] at q1 q2 q3 q4
      obtain ⟨b1, b2⟩ := hbook.2 i (by omega)
      have p1c : (mi 55 i).toInt = (p : Int) := by rw [show mi 55 i = mi 174 (107 + i) from b1]; exact p1
      refine V_iald (len := 8) i dX7_looked_27 (sRa (Or.inr (Or.inr ⟨40, (Or.inl rfl), rfl, rfl⟩)) (k := 1) (by omega)) ⟨by omega, by omega⟩ hx (by omega) ?_
      refine V_istore_n (L' := [_, _, _]) dX7_looked_28 (by decide) rfl rfl ?_
      refine V_aload_n dX7_looked_29 rfl ?_
      refine V_getr (b := 40) 7 1 dX7_looked_30 (Or.inl lkX7_30) rfl rfl ⟨by omega, by omega⟩ (hR _ _ _ rfl) ?_
      refine V_iload_n dX7_looked_33 rfl ?_
      refine V_aload_n dX7_looked_34 rfl ?_
      refine V_getr (b := 40) 7 1 dX7_looked_35 (Or.inl lkX7_30) rfl rfl ⟨by omega, by omega⟩ (hR _ _ _ rfl) ?_
      refine V_getr (b := 41) 6 6 dX7_looked_38 lnX7_85 rfl rfl ⟨by omega, by omega⟩ (hR _ _ _ rfl) ?_
      refine V_iload_n dX7_looked_41 rfl ?_
      refine V_aald (len := 6) (b := (58 + 2 * p)) 5 p dX7_looked_42 rfl rfl ⟨by omega, by omega⟩ p1c (by omega) (hR _ _ _ (rFolk (Or.inl rfl) (by omega))) ?_
      refine V_geti 1 5 dX7_looked_43 lnX7_120 rfl (sP (pOf (Or.inl rfl) (by omega))) ⟨by omega, by omega⟩ ?_
      refine V_callV (ci := 6) (qX6_ageBy _ _ _ hR hn _ (Or.inl rfl) _ _ p p1c (by omega) (by rw [q3]; exact (hBD.2.2.2.1 p p2).2.2.2.2.1.ok hW5)) dX7_looked_46 mlX7_127 mtX6_ageBy ivX6_ageBy rfl rfl ⟨by omega, by omega⟩ (by decide) rfl rfl (by decide) (Nat.le_of_ble_eq_true rfl) rfl rfl ?_
      rintro _ _ _ _ ⟨rfl, rfl, rfl, rfl⟩
      rw [q3, age_eq hBD hrw p2 (hBD.2.2.2.1 p p2).2.2.2.2.1]
      refine V_aload_n dX7_looked_49 rfl ?_
      refine V_getr (b := 40) 7 1 dX7_looked_50 (Or.inl lkX7_30) rfl rfl ⟨by omega, by omega⟩ (hR _ _ _ rfl) ?_
      refine V_getr (b := 53) 6 12 dX7_looked_53 lnX7_238 rfl rfl ⟨by omega, by omega⟩ (hR _ _ _ rfl) ?_
      refine V_getr (b := 56) 3 2 dX7_looked_56 lnX7_247 rfl rfl ⟨by omega, by omega⟩ (hR _ _ _ (rR (Or.inr (Or.inr ⟨40, (Or.inl rfl), rfl, rfl⟩)) (k := 2) (by omega))) ?_
      refine V_iload_n dX7_looked_59 rfl ?_
      refine V_iald (len := 8) i dX7_looked_60 (sRa (Or.inr (Or.inr ⟨40, (Or.inl rfl), rfl, rfl⟩)) (k := 2) (by omega)) ⟨by omega, by omega⟩ hx (by omega) ?_
      refine V_icmp_eq (tgt := 66) dX7_looked_61 (by decide) (fun c61 => ?_) (fun c61 => ?_)
      · refine V_iinc (v := _ + (1)) (L' := [_, _, _]) dX7_looked_66 (by decide) rfl rfl rfl rfl ?_
        refine V_goto (tgt := 2) dX7_looked_69 (by decide) ?_
        refine ih (i + 1) _ _ (by omega) (ix_add hx (by decide) (by omega)) ?_
        rw [← he]
        exact (if_pos (by rw [nat_of_toInt p1]; exact c61.trans b2)).symm
      · refine V_iload_n dX7_looked_64 rfl ?_
        refine V_iret dX7_looked_65 rfl rfl ?_
        refine ⟨?_, rfl, rfl, rfl⟩
        rw [← he]
        unfold lookTo
        rw [if_neg (by rw [nat_of_toInt p1]; exact fun q => c61 (q.trans b2.symm)), nI_of_toInt hx]
  exact loop (cB c) 0 _ _ (by omega) (by decide) rfl
set_option maxRecDepth 4000 in
theorem qX8_looked (n : Nat) (mi : MI) (mr : MR) (c : CT) (hR : RF mr) (hn : 186 ≤ n) (hBD : BD (mi 174) c)  : Ct KX8_looked 6 0 0 [.ref 173] n mi mr (eqQ (some (.int (lookTo (mi 174) 0 (cB c)))) n (mi) mr) := by
  refine Ct.of2 [some (.ref 173), none] (by decide +kernel) (Nat.le_of_ble_eq_true rfl) rfl ?_
  obtain ⟨⟨hN, hN6⟩, ⟨hW, hW5⟩, ⟨hL, hL5⟩, ⟨hT, hT100⟩, ⟨hS, hS5⟩, ⟨hP, hP8⟩, ⟨hBk, hB8⟩⟩ := hBD.1
  refine V_iconst (v := 0) dX8_looked_0 rfl ?_
  refine V_istore_n (L' := [_, _]) dX8_looked_1 (by decide) rfl rfl ?_
  have loop : ∀ (m i : Nat) (x : Int32), i + m = cB c → x.toInt = (i : Int) → lookTo (mi 174) i m = lookTo (mi 174) 0 (cB c) → V KX8_looked 6 0 0 (eqQ (some (.int (lookTo (mi 174) 0 (cB c)))) n (mi) mr) 2 [some (.ref 173), some (.int x)] [] n mi mr := by
    intro m
    induction m with
    | zero =>
      intro i x him hx he
      refine V_iload_n dX8_looked_2 rfl ?_
      refine V_aload_n dX8_looked_3 rfl ?_
      refine V_getr (b := 174) 8 1 dX8_looked_4 (Or.inl lkX8_9) rfl rfl ⟨by omega, by omega⟩ (hR _ _ _ rfl) ?_
      refine V_bipush (v := 16) dX8_looked_7 rfl ?_
      refine V_iald (len := 938) 16 dX8_looked_9 rfl ⟨by omega, by omega⟩ (by decide) (by omega) ?_
      refine V_icmp_ge (tgt := 46) dX8_looked_10 (by decide) (fun c10 => ?_) (fun c10 => absurd ((le_nat hBk hx).mpr (by omega)) c10)
      refine V_bipush (v := -5) dX8_looked_46 rfl ?_
      refine V_iret dX8_looked_48 rfl rfl ?_
      refine ⟨?_, rfl, rfl, rfl⟩
      rw [← he]
      rfl
    | succ m ih =>
      intro i x him hx he
      refine V_iload_n dX8_looked_2 rfl ?_
      refine V_aload_n dX8_looked_3 rfl ?_
      refine V_getr (b := 174) 8 1 dX8_looked_4 (Or.inl lkX8_9) rfl rfl ⟨by omega, by omega⟩ (hR _ _ _ rfl) ?_
      refine V_bipush (v := 16) dX8_looked_7 rfl ?_
      refine V_iald (len := 938) 16 dX8_looked_9 rfl ⟨by omega, by omega⟩ (by decide) (by omega) ?_
      refine V_icmp_ge (tgt := 46) dX8_looked_10 (by decide) (fun c10 => absurd ((le_nat hBk hx).mp c10) (by omega)) (fun c10 => ?_)
      refine V_aload_n dX8_looked_13 rfl ?_
      refine V_aload_n dX8_looked_14 rfl ?_
      refine V_getr (b := 174) 8 1 dX8_looked_15 (Or.inl lkX8_9) rfl rfl ⟨by omega, by omega⟩ (hR _ _ _ rfl) ?_
      refine V_bipush (v := 107) dX8_looked_18 rfl ?_
      refine V_iload_n dX8_looked_20 rfl ?_
      refine V_iadd dX8_looked_21 ?_
      refine V_iald (len := 938) (107 + i) dX8_looked_22 rfl ⟨by omega, by omega⟩ (ix_add (by decide) hx (by omega)) (by omega) ?_
      obtain ⟨p, p1, p2⟩ := hBD.2.2.2.2.2.2.2.1 i (by omega)
      refine V_callV (ci := 8) (qX8_ageOf _ _ _ hR hn (cN c) hN6 hBD.okS _ p p1 p2) dX8_looked_23 mlX8_155 mtX8_ageOf ivX8_ageOf rfl rfl ⟨by omega, by omega⟩ (by decide) rfl rfl (by decide) (Nat.le_of_ble_eq_true rfl) rfl rfl ?_
      rintro _ _ _ _ ⟨rfl, rfl, rfl, rfl⟩
      refine V_aload_n dX8_looked_26 rfl ?_
      refine V_getr (b := 174) 8 1 dX8_looked_27 (Or.inl lkX8_9) rfl rfl ⟨by omega, by omega⟩ (hR _ _ _ rfl) ?_
      refine V_bipush (v := 115) dX8_looked_30 rfl ?_
      refine V_iload_n dX8_looked_32 rfl ?_
      refine V_iadd dX8_looked_33 ?_
      refine V_iald (len := 938) (115 + i) dX8_looked_34 rfl ⟨by omega, by omega⟩ (ix_add (by decide) hx (by omega)) (by omega) ?_
      refine V_icmp_eq (tgt := 40) dX8_looked_35 (by decide) (fun c35 => ?_) (fun c35 => ?_)
      · refine V_iinc (v := _ + (1)) (L' := [_, _]) dX8_looked_40 (by decide) rfl rfl rfl rfl ?_
        refine V_goto (tgt := 2) dX8_looked_43 (by decide) ?_
        refine ih (i + 1) _ (by omega) (ix_add hx (by decide) (by omega)) ?_
        rw [← he]
        exact (if_pos (by rw [nat_of_toInt p1]; exact c35)).symm
      · refine V_iload_n dX8_looked_38 rfl ?_
        refine V_iret dX8_looked_39 rfl rfl ?_
        refine ⟨?_, rfl, rfl, rfl⟩
        rw [← he]
        unfold lookTo
        rw [if_neg (by rw [nat_of_toInt p1]; exact c35), nI_of_toInt hx]
  exact loop (cB c) 0 _ (by omega) (by decide) rfl
