/-- the nerve of p by y -/
noncomputable def sNerve (S : Nat → Int32) (nc : Nat) (e : Nat → Nat) (s nv : Nat → Int32) (p : Nat) (x y : Int32) : Int32 := if sHereAt S p (sAge S p y) then vNerve (nFacts x (S (20 + p)) (S (26 + p)) (sAge S p y) (sStage S p (sAge S p y)) (hFact y)) s nv e nc else 0
theorem nerve_eq {u : Nat} {S : Nat → Int32} {c : CT} {mi : MI} {w p hv nc : Nat} {e : Nat → Nat} {x y : Int32} (hB : BDy u S c) (hr : RW S c mi w) (hp : p < cN c) (hh : HV S mi hv) (hy : hasIn y (cW c)) : cNerve mi w hv p nc e x y = sNerve S nc e (mi (hv + 1)) (mi (hv + 2)) p x y := by
  unfold cNerve sNerve
  rw [stage_eq hr hp hh, age_eqY hB hr hp hy, (hr.2.1 p hp).1, (hr.2.1 p hp).2.1]
  by_cases h : sHereAt S p (sAge S p y)
  · have q : 0 < sStage S p (sAge S p y) := fStage_pos.mpr h
    rw [if_pos h, if_neg (fun g => by rw [g] at q; exact absurd q (by decide))]
  · have e0 : sStage S p (sAge S p y) = 0 := if_neg h
    rw [if_neg h, if_pos e0]
noncomputable def sAllNerve (S : Nat → Int32) (nc : Nat) (e : Nat → Nat) (s nv : Nat → Int32) (N : Nat) : Int32 := sumTo (fun p => sNerve S nc e s nv p (nI p) (S (1 + p))) N
theorem nerves_eq {u : Nat} {S : Nat → Int32} {c : CT} {mi : MI} {w hv nc : Nat} {e : Nat → Nat} (hB : BDy u S c) (hr : RW S c mi w) (hh : HV S mi hv) : sumTo (cNerveOf mi w hv nc e) (cN c) = sAllNerve S nc e (mi (hv + 1)) (mi (hv + 2)) (cN c) := by
  unfold sAllNerve
  refine sumTo_eq (fun p hp => ?_)
  unfold cNerveOf
  rw [nerve_eq hB hr hp hh (by rw [has_eq hr hp]; exact (hB.2.2.2.1 p hp).2.2.2.2.1), has_eq hr hp]
set_option maxRecDepth 4000 in
theorem qX8_nerveBy (n : Nat) (mi : MI) (mr : MR) (c : CT) (hR : RF mr) (hn : 186 ≤ n) (hBD : BDy 2000 (mi 174) c) (nc : Nat) (e : Nat → Nat) (s nv : Nat → Int32) (b : Nat) (hMV : MV (mi 174) nc e s nv b) (x y : Int32) (p : Nat) (hx : x.toInt = (p : Int)) (hp : p < cN c) (hy : hasIn y (cW c))  : Ct KX8_nerveBy 5 0 0 [.ref 173, .int x, .int y] n mi mr (offQ (some (.int (sNerve (mi 174) nc e s nv p x y))) n mi mr byM) := by
  refine Ct.of2 [some (.ref 173), some (.int x), some (.int y), none] (by decide +kernel) (Nat.le_of_ble_eq_true rfl) rfl ?_
  obtain ⟨⟨hN, hN6⟩, ⟨hW, hW5⟩, ⟨hL, hL5⟩, ⟨hT, hT100⟩, ⟨hS, hS5⟩, ⟨hP, hP8⟩, ⟨hBk, hB8⟩⟩ := hBD.1
  
  refine V_aload_n dX8_nerveBy_0 rfl ?_
  refine V_iload_n dX8_nerveBy_1 rfl ?_
  refine V_aload_n dX8_nerveBy_2 rfl ?_
  refine V_iload_n dX8_nerveBy_3 rfl ?_
  refine V_iload_n dX8_nerveBy_4 rfl ?_
  refine V_callV (ci := 8) (qX8_ageBy _ _ _ hR hn _ _ p hx (by omega) (hy.ok hW5) hBD.okS.2.1) dX8_nerveBy_5 mlX8_146 mtX8_ageBy ivX8_ageBy rfl rfl ⟨by omega, by omega⟩ (by decide) rfl rfl (by decide) (Nat.le_of_ble_eq_true rfl) rfl rfl ?_
  rintro _ _ _ _ ⟨rfl, rfl, rfl, rfl⟩
  refine V_callV (ci := 8) (qX8_isHereAt _ _ _ hR hn _ _ p hx (by omega)) dX8_nerveBy_8 mlX8_139 mtX8_isHereAt ivX8_isHereAt rfl rfl ⟨by omega, by omega⟩ (by decide) rfl rfl (by decide) (Nat.le_of_ble_eq_true rfl) rfl rfl ?_
  rintro _ _ _ _ ⟨rfl, rfl, rfl, rfl⟩
  refine V_if_eq (tgt := 26) dX8_nerveBy_11 (by decide) (fun c11 => ?_) (fun c11 => ?_)
  · refine V_iconst (v := 0) dX8_nerveBy_26 rfl ?_
    refine V_istore_n (L' := [_, _, _, _]) dX8_nerveBy_27 (by decide) rfl rfl ?_
    refine V_iload_n dX8_nerveBy_28 rfl ?_
    refine V_if_ge (tgt := 36) dX8_nerveBy_29 (by decide) (fun c29 => ?_) (fun c29 => ?_)
    · refine V_iload_n dX8_nerveBy_36 rfl ?_
      refine V_iret dX8_nerveBy_37 rfl rfl ?_
      have hq : ∀ z : Int32, (if 0 < z then z else 0) = (if z < 0 then 0 else z) := fun z => by
        by_cases h1 : 0 < z
        · rw [if_pos h1, if_neg (fun h => Int32.lt_irrefl (Int32.lt_trans h1 h))]
        · by_cases h2 : z < 0
          · rw [if_neg h1, if_pos h2]
          · rw [if_neg h1, if_neg h2]
            rw [Int32.not_lt, Int32.le_iff_toInt_le] at h1 h2
            rw [← Int32.toInt_inj]
            simp only [Int32.reduceToInt] at h1 h2 ⊢
            omega
      unfold sNerve
      first
        | (refine ⟨?_, rfl, rfl, ho2⟩
           rw [if_pos (b01_n.mp c11)]
           unfold vNerve
           rw [mSum_v, hq]
           first | (rw [if_neg c29]; done) | (rw [if_pos (Int32.not_le.mp c29)]; done) | (rw [if_neg (Int32.not_lt.mpr c29)]; done))
        | (refine ⟨?_, rfl, rfl, Off.rf⟩
           rw [if_neg (b01_0.mp c11)]
           done)
        | exact absurd c29 (by decide)
    · refine V_iconst (v := 0) dX8_nerveBy_32 rfl ?_
      refine V_goto (tgt := 37) dX8_nerveBy_33 (by decide) ?_
      refine V_iret dX8_nerveBy_37 rfl rfl ?_
      have hq : ∀ z : Int32, (if 0 < z then z else 0) = (if z < 0 then 0 else z) := fun z => by
        by_cases h1 : 0 < z
        · rw [if_pos h1, if_neg (fun h => Int32.lt_irrefl (Int32.lt_trans h1 h))]
        · by_cases h2 : z < 0
          · rw [if_neg h1, if_pos h2]
          · rw [if_neg h1, if_neg h2]
            rw [Int32.not_lt, Int32.le_iff_toInt_le] at h1 h2
            rw [← Int32.toInt_inj]
            simp only [Int32.reduceToInt] at h1 h2 ⊢
            omega
      unfold sNerve
      first
        | (refine ⟨?_, rfl, rfl, ho2⟩
           rw [if_pos (b01_n.mp c11)]
           unfold vNerve
           rw [mSum_v, hq]
           first | (rw [if_neg c29]; done) | (rw [if_pos (Int32.not_le.mp c29)]; done) | (rw [if_neg (Int32.not_lt.mpr c29)]; done))
        | (refine ⟨?_, rfl, rfl, Off.rf⟩
           rw [if_neg (b01_0.mp c11)]
           done)
        | exact absurd c29 (by decide)
  · refine V_bipush (v := 10) dX8_nerveBy_14 rfl ?_
    refine V_aload_n dX8_nerveBy_16 rfl ?_
    refine V_iload_n dX8_nerveBy_17 rfl ?_
    refine V_iload_n dX8_nerveBy_18 rfl ?_
    refine V_callV (ci := 8) (qX8_looks _ _ _ c hR hn hBD nc e s nv b hMV _ _ p hx hp hy (b01_n.mp c11).1) dX8_nerveBy_19 mlX8_152 mtX8_looks ivX8_looks rfl rfl ⟨by omega, by omega⟩ (by decide) rfl rfl (by decide) (Nat.le_of_ble_eq_true rfl) rfl rfl ?_
    rintro _ _ m2 _ ⟨rfl, rfl, rfl, ho2⟩
    refine V_iadd dX8_nerveBy_22 ?_
    refine V_goto (tgt := 27) dX8_nerveBy_23 (by decide) ?_
    refine V_istore_n (L' := [_, _, _, _]) dX8_nerveBy_27 (by decide) rfl rfl ?_
    refine V_iload_n dX8_nerveBy_28 rfl ?_
    refine V_if_ge (tgt := 36) dX8_nerveBy_29 (by decide) (fun c29 => ?_) (fun c29 => ?_)
    · refine V_iload_n dX8_nerveBy_36 rfl ?_
      refine V_iret dX8_nerveBy_37 rfl rfl ?_
      have hq : ∀ z : Int32, (if 0 < z then z else 0) = (if z < 0 then 0 else z) := fun z => by
        by_cases h1 : 0 < z
        · rw [if_pos h1, if_neg (fun h => Int32.lt_irrefl (Int32.lt_trans h1 h))]
        · by_cases h2 : z < 0
          · rw [if_neg h1, if_pos h2]
          · rw [if_neg h1, if_neg h2]
            rw [Int32.not_lt, Int32.le_iff_toInt_le] at h1 h2
            rw [← Int32.toInt_inj]
            simp only [Int32.reduceToInt] at h1 h2 ⊢
            omega
      unfold sNerve
      first
        | (refine ⟨?_, rfl, rfl, ho2⟩
           rw [if_pos (b01_n.mp c11)]
           unfold vNerve
           rw [mSum_v, hq]
           first | (rw [if_neg c29]; done) | (rw [if_pos (Int32.not_le.mp c29)]; done) | (rw [if_neg (Int32.not_lt.mpr c29)]; done))
        | (refine ⟨?_, rfl, rfl, Off.rf⟩
           rw [if_neg (b01_0.mp c11)]
           done)
        | exact absurd c29 (by decide)
    · refine V_iconst (v := 0) dX8_nerveBy_32 rfl ?_
      refine V_goto (tgt := 37) dX8_nerveBy_33 (by decide) ?_
      refine V_iret dX8_nerveBy_37 rfl rfl ?_
      have hq : ∀ z : Int32, (if 0 < z then z else 0) = (if z < 0 then 0 else z) := fun z => by
        by_cases h1 : 0 < z
        · rw [if_pos h1, if_neg (fun h => Int32.lt_irrefl (Int32.lt_trans h1 h))]
        · by_cases h2 : z < 0
          · rw [if_neg h1, if_pos h2]
          · rw [if_neg h1, if_neg h2]
            rw [Int32.not_lt, Int32.le_iff_toInt_le] at h1 h2
            rw [← Int32.toInt_inj]
            simp only [Int32.reduceToInt] at h1 h2 ⊢
            omega
      unfold sNerve
      first
        | (refine ⟨?_, rfl, rfl, ho2⟩
           rw [if_pos (b01_n.mp c11)]
           unfold vNerve
           rw [mSum_v, hq]
           first | (rw [if_neg c29]; done) | (rw [if_pos (Int32.not_le.mp c29)]; done) | (rw [if_neg (Int32.not_lt.mpr c29)]; done))
        | (refine ⟨?_, rfl, rfl, Off.rf⟩
           rw [if_neg (b01_0.mp c11)]
           done)
        | exact absurd c29 (by decide)
set_option maxRecDepth 4000 in
theorem qX8_allNerve (n : Nat) (mi : MI) (mr : MR) (c : CT) (hR : RF mr) (hn : 186 ≤ n) (hBD : BDy 2000 (mi 174) c) (nc : Nat) (e : Nat → Nat) (s nv : Nat → Int32) (b : Nat) (hMV : MV (mi 174) nc e s nv b)  : Ct KX8_allNerve 6 0 0 [.ref 173] n mi mr (offQ (some (.int (sAllNerve (mi 174) nc e s nv (cN c)))) n mi mr byM) := by
  refine Ct.of2 [some (.ref 173), none, none] (by decide +kernel) (Nat.le_of_ble_eq_true rfl) rfl ?_
  obtain ⟨⟨hN, hN6⟩, ⟨hW, hW5⟩, ⟨hL, hL5⟩, ⟨hT, hT100⟩, ⟨hS, hS5⟩, ⟨hP, hP8⟩, ⟨hBk, hB8⟩⟩ := hBD.1
  
  refine V_iconst (v := 0) dX8_allNerve_0 rfl ?_
  refine V_istore_n (L' := [_, _, _]) dX8_allNerve_1 (by decide) rfl rfl ?_
  refine V_iconst (v := 0) dX8_allNerve_2 rfl ?_
  refine V_istore_n (L' := [_, _, _]) dX8_allNerve_3 (by decide) rfl rfl ?_
  have loop : ∀ (m i : Nat) (m2 : MI) (acc x : Int32), i + m = cN c → x.toInt = (i : Int) → Off byM mi m2 → acc = sumTo (fun p => sNerve (mi 174) nc e s nv p (nI p) (mi 174 (1 + p))) i → V KX8_allNerve 6 0 0 (offQ (some (.int (sAllNerve (mi 174) nc e s nv (cN c)))) n mi mr byM) 4 [some (.ref 173), some (.int acc), some (.int x)] [] n m2 mr := by
    intro m
    induction m with
    | zero =>
      intro i m2 acc x him hx ho ha
      have e174 : m2 174 = mi 174 := ho.fn (fun k hk => by unfold byM at hk; omega)
      refine V_iload_n dX8_allNerve_4 rfl ?_
      refine V_aload_n dX8_allNerve_5 rfl ?_
      refine V_getr (b := 174) 8 1 dX8_allNerve_6 (Or.inl lkX8_9) rfl rfl ⟨by omega, by omega⟩ (hR _ _ _ rfl) ?_
      refine V_bipush (v := 12) dX8_allNerve_9 rfl ?_
      refine V_iald (len := 938) 12 dX8_allNerve_11 rfl ⟨by omega, by omega⟩ (by decide) (by omega) ?_
      refine V_icmp_ge (tgt := 37) dX8_allNerve_12 (by decide) (fun c12 => ?_) (fun c12 => absurd ((le_nat (by rw [e174]; exact hN) hx).mpr (by omega)) c12)
      refine V_iload_n dX8_allNerve_37 rfl ?_
      refine V_iret dX8_allNerve_38 rfl rfl ?_
      have hi : i = cN c := by omega
      subst hi
      unfold sAllNerve
      rw [← ha]
      exact ⟨rfl, rfl, rfl, ho⟩
    | succ m ih =>
      intro i m2 acc x him hx ho ha
      have e174 : m2 174 = mi 174 := ho.fn (fun k hk => by unfold byM at hk; omega)
      refine V_iload_n dX8_allNerve_4 rfl ?_
      refine V_aload_n dX8_allNerve_5 rfl ?_
      refine V_getr (b := 174) 8 1 dX8_allNerve_6 (Or.inl lkX8_9) rfl rfl ⟨by omega, by omega⟩ (hR _ _ _ rfl) ?_
      refine V_bipush (v := 12) dX8_allNerve_9 rfl ?_
      refine V_iald (len := 938) 12 dX8_allNerve_11 rfl ⟨by omega, by omega⟩ (by decide) (by omega) ?_
      refine V_icmp_ge (tgt := 37) dX8_allNerve_12 (by decide) (fun c12 => absurd ((le_nat (by rw [e174]; exact hN) hx).mp c12) (by omega)) (fun c12 => ?_)
      refine V_iload_n dX8_allNerve_15 rfl ?_
      refine V_aload_n dX8_allNerve_16 rfl ?_
      refine V_iload_n dX8_allNerve_17 rfl ?_
      refine V_aload_n dX8_allNerve_18 rfl ?_
      refine V_getr (b := 174) 8 1 dX8_allNerve_19 (Or.inl lkX8_9) rfl rfl ⟨by omega, by omega⟩ (hR _ _ _ rfl) ?_
      refine V_iconst (v := 1) dX8_allNerve_22 rfl ?_
      refine V_iload_n dX8_allNerve_23 rfl ?_
      refine V_iadd dX8_allNerve_24 ?_
      refine V_iald (len := 938) (1 + i) dX8_allNerve_25 rfl ⟨by omega, by omega⟩ (ix_add (by decide) hx (by omega)) (by omega) ?_
      refine V_callV (ci := 8) (qX8_nerveBy _ m2 _ c hR hn (by rw [e174]; exact hBD) nc e s nv b (by rw [e174]; exact hMV) _ _ i hx (by omega) (by rw [e174]; exact (hBD.2.2.2.1 i (by omega)).2.2.2.2.1)) dX8_allNerve_26 mlX8_163 mtX8_nerveBy ivX8_nerveBy rfl rfl ⟨by omega, by omega⟩ (by decide) rfl rfl (by decide) (Nat.le_of_ble_eq_true rfl) rfl rfl ?_
      rintro _ _ m3 _ ⟨rfl, rfl, rfl, ho3⟩
      refine V_iadd dX8_allNerve_29 ?_
      refine V_istore_n (L' := [_, _, _]) dX8_allNerve_30 (by decide) rfl rfl ?_
      refine V_iinc (v := _ + (1)) (L' := [_, _, _]) dX8_allNerve_31 (by decide) rfl rfl rfl rfl ?_
      refine V_goto (tgt := 4) dX8_allNerve_34 (by decide) ?_
      refine ih (i + 1) m3 _ _ (by omega) (ix_add hx (by decide) (by omega)) (ho.tr ho3) ?_
      unfold sumTo
      rw [← ha, e174, ← nI_of_toInt hx]
  exact loop (cN c) 0 mi _ _ (by omega) (by decide) Off.rf rfl
