theorem val_congr {mi m1 : MI} {a hv : Nat} {y : Int32} (e1 : ∀ b j, b ≠ 43 → ¬ (b = 40 + 18 + 2 * a ∧ j = 5) → m1 b j = mi b j) (hh : hv = 36 ∨ 100 < hv) (ha : a < 6) : cStage m1 40 hv a (cAge m1 40 a y) = cStage mi 40 hv a (cAge mi 40 a y) := by
  have e2 : m1 (40 + 18 + 2 * a + 1) = mi (40 + 18 + 2 * a + 1) := funext fun k => e1 _ _ (by omega) (by omega)
  have e3 : m1 (40 + 2) = mi (40 + 2) := funext fun k => e1 _ _ (by omega) (by omega)
  have q : ∀ j, j ≠ 5 → m1 (40 + 18 + 2 * a) j = mi (40 + 18 + 2 * a) j := fun j hj => e1 _ _ (by omega) (by omega)
  have e0 : ∀ j, m1 40 j = mi 40 j := fun j => e1 _ _ (by omega) (by omega)
  have e4 : ∀ j, m1 hv j = mi hv j := fun j => e1 _ _ (by omega) (by omega)
  unfold cStage cAge cAgeHad cY
  rw [e2, e3, q 1 (by decide), q 2 (by decide), q 3 (by decide), q 4 (by decide), e0, e4, e4]
theorem sval_congr {S S' : Nat → Int32} {p : Nat} {y : Int32} (hs : ∀ k, ¬ (1 ≤ k ∧ k ≤ 11) → S' k = S k) : sStage S' p (sAge S' p y) = sStage S p (sAge S p y) := by
  unfold sStage sTells sAge sAgeIn
  rw [hs 18 (by omega), hs (38 + p) (by omega), hs 0 (by omega), hs (32 + p) (by omega), hs (20 + p) (by omega), hs (26 + p) (by omega), hs (223 + _) (by omega), hs (228 + _) (by omega), hs (68 + _) (by omega)]
  rw [show (fun k => S' (44 + 4 * p + k)) = fun k => S (44 + 4 * p + k) from funext fun k => hs _ (by omega)]
abbrev okPour (S : Nat → Int32) (p v : Int32) : Prop := (0 ≤ p ∧ p < S 12) ∧ 0 ≤ v ∧ v < S 19
def sPour (S : Nat → Int32) (p v : Int32) : Int32 := if okPour S p v then (if S (7 + v.toNatClampNeg) = 0 then -3 else sStage S p.toNatClampNeg (sAge S p.toNatClampNeg v)) else -1
def cPour (mi : MI) (p v : Int32) : MI := if okPour (mi 174) p v then (if mi 174 (7 + v.toNatClampNeg) = 0 then mi else up2 (up2 mi 43 v.toNatClampNeg (mi 174 (7 + v.toNatClampNeg) - 1)) (58 + 2 * p.toNatClampNeg) 5 v) else mi
def mPour (mi : MI) (p v : Int32) : MI := if okPour (mi 174) p v then (if mi 174 (7 + v.toNatClampNeg) = 0 then mi else up2 (up2 mi 174 (7 + v.toNatClampNeg) (mi 174 (7 + v.toNatClampNeg) - 1)) 174 (1 + p.toNatClampNeg) v) else mi
theorem pos_of {x : Int32} (h : natTo x 100) (h0 : ¬ x = 0) : 0 < x := by
  obtain ⟨k, h1, h2⟩ := h
  rw [← Int32.toInt_inj] at h0
  rw [Int32.lt_iff_toInt_lt]
  simp only [Int32.reduceToInt] at *
  omega
theorem hvOf_place {S : Nat → Int32} {c : CT} (h : BD S c) : hvOf S = 36 ∨ 100 < hvOf S := by
  rcases h.isV with e | ⟨i, h1, e⟩ <;> omega
theorem okAt.bot {c : CT} {k : Nat} {x : Int32} (hk : k < 5) (h : natTo x 100) : okAt c (7 + k) x := by
  unfold okAt
  refine ⟨?_, ?_, fun _ _ => h, ?_, ?_, ?_, ?_, ?_, ?_, ?_, ?_, ?_, ?_, ?_⟩ <;> (intros; omega)
theorem okAt.has {c : CT} {k : Nat} {x : Int32} (hk : k < 6) (h : hasIn x (cW c)) : okAt c (1 + k) x := by
  unfold okAt
  refine ⟨?_, fun _ _ => h, ?_, ?_, ?_, ?_, ?_, ?_, ?_, ?_, ?_, ?_, ?_, ?_⟩ <;> (intros; omega)
set_option maxRecDepth 4000 in
theorem qX7_pour (n : Nat) (mi : MI) (mr : MR) (c : CT) (I : INV n mi mr c) (p v : Int32) : Ct KX7_pour 6 0 0 [.ref 32, .int p, .int v] n mi mr (eqQ (some (.int (sPour (mi 174) p v))) n (cPour mi p v) mr) := by
  refine Ct.of2 [some (.ref 32), some (.int p), some (.int v)] (by decide +kernel) (Nat.le_of_ble_eq_true rfl) rfl ?_
  have hhv := I.hv
  have hcl := I.cl.1
  obtain ⟨hR, hn, ⟨⟨hN, hN6⟩, ⟨hW, hW5⟩, ⟨hL, hL5⟩, ⟨hT, hT100⟩, ⟨hS, hS5⟩, ⟨hP, hP8⟩, ⟨hBk, hB8⟩⟩, hrw⟩ := I.facts
  have hBD := I.2.2.1
  obtain ⟨⟨r1, r2, r3, r4, r5⟩, hper, hvin, htape, hseen, hnight, hbook⟩ := id hrw
  have hcN : nat (mi 40 1) (cN c) := by rw [r2]; exact hN
  have hcW : nat (mi 40 2) (cW c) := by rw [r3]; exact hW
  clear I
  refine V_aload_n dX7_pour_0 rfl ?_
  refine V_iload_n dX7_pour_1 rfl ?_
  refine V_callV (ci := 7) (qX7_isOne _ _ _ hR hn _) dX7_pour_2 mlX7_105 mtX7_isOne ivX7_isOne rfl rfl ⟨by omega, by omega⟩ (by decide) rfl rfl (by decide) (Nat.le_of_ble_eq_true rfl) rfl rfl ?_
  rintro _ _ _ _ ⟨rfl, rfl, rfl, rfl⟩
  refine V_if_eq (tgt := 16) dX7_pour_5 (by decide) (fun c5 => ?_) (fun c5 => ?_)
  · refine V_iconst (v := -1) dX7_pour_16 rfl ?_
    refine V_iret dX7_pour_17 rfl rfl ?_
    clear hR
    (try simp only [b01_0, b01_n] at *)
    refine ⟨?_, rfl, ?_, rfl⟩
    all_goals (simp only [sPour, cPour, okPour]; (try simp only [r2, r3]); repeat' split)
    all_goals first | rfl | (exfalso; simp only [Int32.lt_iff_toInt_lt, Int32.le_iff_toInt_le, ← Int32.toInt_inj, Int32.reduceToInt] at *; omega)
  · refine V_aload_n dX7_pour_8 rfl ?_
    refine V_iload_n dX7_pour_9 rfl ?_
    refine V_callV (ci := 7) (qX7_isVintage _ _ _ hR hn _) dX7_pour_10 mlX7_140 mtX7_isVintage ivX7_isVintage rfl rfl ⟨by omega, by omega⟩ (by decide) rfl rfl (by decide) (Nat.le_of_ble_eq_true rfl) rfl rfl ?_
    rintro _ _ _ _ ⟨rfl, rfl, rfl, rfl⟩
    refine V_if_ne (tgt := 18) dX7_pour_13 (by decide) (fun c13 => ?_) (fun c13 => ?_)
    · obtain ⟨a, ha1, ha2⟩ := idxC c5 hcN
      obtain ⟨k, hk1, hk2⟩ := idxC c13 hcW
      have hokP : okPour (mi 174) p v := by unfold okPour; rw [← r2, ← r3]; exact And.intro (b01_n.mp c5) (b01_n.mp c13)
      have b2 : mi (40 + 3) k = mi 174 (7 + k) := (hvin k hk2).2
      refine V_aload_n dX7_pour_18 rfl ?_
      refine V_getr (b := 40) 7 1 dX7_pour_19 (Or.inl lkX7_30) rfl rfl ⟨by omega, by omega⟩ (hR _ _ _ rfl) ?_
      refine V_iload_n dX7_pour_22 rfl ?_
      refine V_iload_n dX7_pour_23 rfl ?_
      refine V_callV (ci := 6) (qX6_pourOut _ _ _ hR hn _ (Or.inl rfl) _ _ a k ha1 (by omega) hk1 (by omega)) dX7_pour_24 mlX7_168 mtX6_pourOut ivX6_pourOut rfl rfl ⟨by omega, by omega⟩ (by decide) rfl rfl (by decide) (Nat.le_of_ble_eq_true rfl) rfl rfl ?_
      rintro _ _ _ _ ⟨rfl, rfl, rfl, rfl⟩
      refine V_if_ne (tgt := 33) dX7_pour_27 (by decide) (fun c27 => ?_) (fun c27 => ?_)
      · have hz : ¬ mi (40 + 3) k = 0 := fun e => c27 (if_pos e)
        rw [if_neg hz]
        refine V_aload_n dX7_pour_33 rfl ?_
        refine V_getr (b := 40) 7 1 dX7_pour_34 (Or.inl lkX7_30) rfl rfl ⟨by omega, by omega⟩ (hR _ _ _ rfl) ?_
        refine V_iload_n dX7_pour_37 rfl ?_
        refine V_iload_n dX7_pour_38 rfl ?_
        refine V_callV (ci := 6) (qX6_stageBy _ _ _ hR hn _ (Or.inl rfl) (hvOf (mi 174)) hcl hBD.isV _ _ a ha1 (by omega) (Or.inr ⟨k, hk1, by omega⟩)) dX7_pour_39 mlX7_130 mtX6_stageBy ivX6_stageBy rfl rfl ⟨by omega, by omega⟩ (by decide) rfl rfl (by decide) (Nat.le_of_ble_eq_true rfl) rfl rfl ?_
        rintro _ _ _ _ ⟨rfl, rfl, rfl, rfl⟩
        refine V_iret dX7_pour_42 rfl rfl ?_
        rw [b2] at hz ⊢
        refine ⟨?_, rfl, ?_, rfl⟩
        · rw [val_congr (mi := mi) (fun b j h1 h2 => by simp only [up2]; rw [if_neg h2, if_neg (fun q => h1 q.1)]) (hvOf_place hBD) (by omega), age_eq hBD hrw ha2 (Or.inr ⟨k, hk1, hk2⟩), stage_eq hrw ha2 hhv]
          unfold sPour
          rw [if_pos hokP, nat_of_toInt hk1, if_neg hz, nat_of_toInt ha1]
        · unfold cPour
          rw [if_pos hokP, nat_of_toInt hk1, if_neg hz, nat_of_toInt ha1]
      · refine V_bipush (v := -3) dX7_pour_30 rfl ?_
        refine V_iret dX7_pour_32 rfl rfl ?_
        have hz : mi (40 + 3) k = 0 := by
          by_cases e : mi (40 + 3) k = 0
          · exact e
          · rw [if_neg e] at c27
            exact absurd c27 (by decide)
        rw [if_pos hz]
        rw [b2] at hz
        refine ⟨?_, rfl, ?_, rfl⟩
        · unfold sPour
          rw [if_pos hokP, nat_of_toInt hk1, if_pos hz]
        · unfold cPour
          rw [if_pos hokP, nat_of_toInt hk1, if_pos hz]
    · refine V_iconst (v := -1) dX7_pour_16 rfl ?_
      refine V_iret dX7_pour_17 rfl rfl ?_
      clear hR
      (try simp only [b01_0, b01_n] at *)
      refine ⟨?_, rfl, ?_, rfl⟩
      all_goals (simp only [sPour, cPour, okPour]; (try simp only [r2, r3]); repeat' split)
      all_goals first | rfl | (exfalso; simp only [Int32.lt_iff_toInt_lt, Int32.le_iff_toInt_le, ← Int32.toInt_inj, Int32.reduceToInt] at *; omega)
set_option maxRecDepth 4000 in
theorem qX8_pour (n : Nat) (mi : MI) (mr : MR) (c : CT) (hR : RF mr) (hn : 186 ≤ n) (hBD : BD (mi 174) c) (p v : Int32) : Ct KX8_pour 6 0 0 [.ref 173, .int p, .int v] n mi mr (eqQ (some (.int (sPour (mi 174) p v))) n (mPour mi p v) mr) := by
  refine Ct.of2 [some (.ref 173), some (.int p), some (.int v)] (by decide +kernel) (Nat.le_of_ble_eq_true rfl) rfl ?_
  obtain ⟨⟨hN, hN6⟩, ⟨hW, hW5⟩, ⟨hL, hL5⟩, ⟨hT, hT100⟩, ⟨hS, hS5⟩, ⟨hP, hP8⟩, ⟨hBk, hB8⟩⟩ := hBD.1
  refine V_aload_n dX8_pour_0 rfl ?_
  refine V_iload_n dX8_pour_1 rfl ?_
  refine V_callV (ci := 8) (qX8_isPerson _ _ _ hR hn _) dX8_pour_2 mlX8_169 mtX8_isPerson ivX8_isPerson rfl rfl ⟨by omega, by omega⟩ (by decide) rfl rfl (by decide) (Nat.le_of_ble_eq_true rfl) rfl rfl ?_
  rintro _ _ _ _ ⟨rfl, rfl, rfl, rfl⟩
  simp only [leSub hN (by omega)]
  refine V_if_eq (tgt := 16) dX8_pour_5 (by decide) (fun c5 => ?_) (fun c5 => ?_)
  · refine V_iconst (v := -1) dX8_pour_16 rfl ?_
    refine V_iret dX8_pour_17 rfl rfl ?_
    clear hR
    (try simp only [b01_0, b01_n] at *)
    refine ⟨?_, rfl, ?_, rfl⟩
    all_goals (simp only [sPour, mPour, okPour]; repeat' split)
    all_goals first | rfl | (exfalso; simp only [Int32.lt_iff_toInt_lt, Int32.le_iff_toInt_le, ← Int32.toInt_inj, Int32.reduceToInt] at *; omega)
  · refine V_aload_n dX8_pour_8 rfl ?_
    refine V_iload_n dX8_pour_9 rfl ?_
    refine V_callV (ci := 8) (qX8_isVintage _ _ _ hR hn _) dX8_pour_10 mlX8_175 mtX8_isVintage ivX8_isVintage rfl rfl ⟨by omega, by omega⟩ (by decide) rfl rfl (by decide) (Nat.le_of_ble_eq_true rfl) rfl rfl ?_
    rintro _ _ _ _ ⟨rfl, rfl, rfl, rfl⟩
    simp only [leSub hW (by omega)]
    refine V_if_ne (tgt := 18) dX8_pour_13 (by decide) (fun c13 => ?_) (fun c13 => ?_)
    · obtain ⟨a, ha1, ha2⟩ := idxC c5 hN
      obtain ⟨k, hk1, hk2⟩ := idxC c13 hW
      have hokP : okPour (mi 174) p v := And.intro (b01_n.mp c5) (b01_n.mp c13)
      refine V_aload_n dX8_pour_18 rfl ?_
      refine V_getr (b := 174) 8 1 dX8_pour_19 (Or.inl lkX8_9) rfl rfl ⟨by omega, by omega⟩ (hR _ _ _ rfl) ?_
      refine V_bipush (v := 7) dX8_pour_22 rfl ?_
      refine V_iload_n dX8_pour_24 rfl ?_
      refine V_iadd dX8_pour_25 ?_
      refine V_iald (len := 938) (7 + k) dX8_pour_26 rfl ⟨by omega, by omega⟩ (ix_add (by decide) hk1 (by omega)) (by omega) ?_
      refine V_if_ne (tgt := 33) dX8_pour_27 (by decide) (fun c27 => ?_) (fun c27 => ?_)
      · refine V_aload_n dX8_pour_33 rfl ?_
        refine V_iload_n dX8_pour_34 rfl ?_
        refine V_iload_n dX8_pour_35 rfl ?_
        refine V_callV (ci := 8) (qX8_pours _ _ _ hR hn _ _ a k ha1 (by omega) hk1 (by omega)) dX8_pour_36 mlX8_187 mtX8_pours ivX8_pours rfl rfl ⟨by omega, by omega⟩ (by decide) rfl rfl (by decide) (Nat.le_of_ble_eq_true rfl) rfl rfl ?_
        rintro _ _ _ _ ⟨rfl, rfl, rfl, rfl⟩
        rw [if_pos (pos_of (hBD.2.2.2.2.1 k (by omega)).2 c27)]
        obtain ⟨m1, hm1⟩ : ∃ m1, m1 = up2 (up2 mi 174 (7 + k) (mi 174 (7 + k) - 1)) 174 (1 + a) v := ⟨_, rfl⟩
        have hs : ∀ j, ¬ (1 ≤ j ∧ j ≤ 11) → m1 174 j = mi 174 j := fun j hj => by
          rw [hm1]
          simp only [up2]
          rw [if_neg (by omega), if_neg (by omega)]
        have hB2 : BD (m1 174) c := by
          rw [hm1]
          obtain ⟨u, hu1, hu2⟩ := (hBD.2.2.2.2.1 k (by omega)).2
          have hpos := pos_of (hBD.2.2.2.2.1 k (by omega)).2 c27
          refine (hBD.up (okAt.bot (by omega) ?_)).up (okAt.has (by omega) (Or.inr ⟨k, hk1, hk2⟩))
          refine ⟨u - 1, ?_, by omega⟩
          rw [Int32.lt_iff_toInt_lt] at hpos
          simp only [Int32.reduceToInt] at hpos
          rw [subOne hu1 (by omega)]
          omega
        have hv1 : m1 174 (1 + a) = v := by rw [hm1, up2_s]
        rw [← hm1]
        refine V_aload_n dX8_pour_39 rfl ?_
        refine V_iload_n dX8_pour_40 rfl ?_
        refine V_aload_n dX8_pour_41 rfl ?_
        refine V_iload_n dX8_pour_42 rfl ?_
        refine V_callV (ci := 8) (qX8_ageOf _ _ _ hR hn (cN c) hN6 hB2.okS _ a ha1 ha2) dX8_pour_43 mlX8_155 mtX8_ageOf ivX8_ageOf rfl rfl ⟨by omega, by omega⟩ (by decide) rfl rfl (by decide) (Nat.le_of_ble_eq_true rfl) rfl rfl ?_
        rintro _ _ _ _ ⟨rfl, rfl, rfl, rfl⟩
        refine V_callV (ci := 8) (qX8_stageAt _ _ _ hR hn _ _ a ha1 (by omega) hB2.okS.1) dX8_pour_46 mlX8_149 mtX8_stageAt ivX8_stageAt rfl rfl ⟨by omega, by omega⟩ (by decide) rfl rfl (by decide) (Nat.le_of_ble_eq_true rfl) rfl rfl ?_
        rintro _ _ _ _ ⟨rfl, rfl, rfl, rfl⟩
        refine V_iret dX8_pour_49 rfl rfl ?_
        refine ⟨?_, rfl, ?_, rfl⟩
        · rw [hv1, sval_congr hs]
          unfold sPour
          rw [if_pos hokP, nat_of_toInt hk1, if_neg c27, nat_of_toInt ha1]
        · unfold mPour
          rw [if_pos hokP, nat_of_toInt hk1, if_neg c27, nat_of_toInt ha1, hm1]
      · refine V_bipush (v := -3) dX8_pour_30 rfl ?_
        refine V_iret dX8_pour_32 rfl rfl ?_
        refine ⟨?_, rfl, ?_, rfl⟩
        · unfold sPour
          rw [if_pos hokP, nat_of_toInt hk1, if_pos c27]
        · unfold mPour
          rw [if_pos hokP, nat_of_toInt hk1, if_pos c27]
    · refine V_iconst (v := -1) dX8_pour_16 rfl ?_
      refine V_iret dX8_pour_17 rfl rfl ?_
      clear hR
      (try simp only [b01_0, b01_n] at *)
      refine ⟨?_, rfl, ?_, rfl⟩
      all_goals (simp only [sPour, mPour, okPour]; repeat' split)
      all_goals first | rfl | (exfalso; simp only [Int32.lt_iff_toInt_lt, Int32.le_iff_toInt_le, ← Int32.toInt_inj, Int32.reduceToInt] at *; omega)
