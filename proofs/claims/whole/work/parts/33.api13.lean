def upS (S : Nat → Int32) (pl : Nat) (v : Int32) : Nat → Int32 := fun k => if k = pl then v else S k
/-- the reference's memory while it tries one place -/
def fM (mi : MI) (pl : Nat) (mn fs cur : Int32) : MI := fun a k => if a = 174 ∧ k = pl then cur else if a = 173 ∧ k = 22 then mn else if a = 173 ∧ k = 23 then fs else mi a k
theorem fM_row {mi : MI} {pl : Nat} {mn fs cur : Int32} : fM mi pl mn fs cur 174 = upS (mi 174) pl cur := by
  funext k
  unfold fM upS
  by_cases e : k = pl
  · rw [if_pos (And.intro rfl e), if_pos e]
  · rw [if_neg (fun h => e h.2), if_neg e, if_neg (by omega), if_neg (by omega)]
theorem fM_pl {mi : MI} {pl : Nat} {mn fs cur y : Int32} : up2 (fM mi pl mn fs cur) 174 pl y = fM mi pl mn fs y := by
  funext a k
  simp only [fM, up2]
  repeat' split
  all_goals first | rfl | (exfalso; omega)
theorem fM_22 {mi : MI} {pl : Nat} {mn fs cur y : Int32} : up2 (fM mi pl mn fs cur) 173 22 y = fM mi pl y fs cur := by
  funext a k
  simp only [fM, up2]
  repeat' split
  all_goals first | rfl | (exfalso; omega)
theorem fM_23 {mi : MI} {pl : Nat} {mn fs cur y : Int32} : up2 (fM mi pl mn fs cur) 173 23 y = fM mi pl mn y cur := by
  funext a k
  simp only [fM, up2]
  repeat' split
  all_goals first | rfl | (exfalso; omega)
theorem fM_r22 {mi : MI} {pl : Nat} {mn fs cur : Int32} : fM mi pl mn fs cur 173 22 = mn := by
  unfold fM
  rw [if_neg (by omega), if_pos ⟨rfl, rfl⟩]
theorem fM_r23 {mi : MI} {pl : Nat} {mn fs cur : Int32} : fM mi pl mn fs cur 173 23 = fs := by
  unfold fM
  rw [if_neg (by omega), if_neg (by omega), if_pos ⟨rfl, rfl⟩]
theorem fM_0 {mi : MI} {pl : Nat} : up2 (up2 mi 173 22 0) 173 23 (-5) = fM mi pl 0 (-5) (mi 174 pl) := by
  funext a k
  simp only [fM, up2]
  by_cases e : a = 174 ∧ k = pl
  · rw [if_neg (by omega), if_neg (by omega), if_pos e, e.1, e.2]
  · rw [if_neg e]
    repeat' split
    all_goals first | rfl | (exfalso; omega)
theorem fM_off {mi : MI} {pl : Nat} {mn fs : Int32} : Off scrM mi (fM mi pl mn fs (mi 174 pl)) := by
  intro a k h
  unfold scrM at h
  unfold fM
  by_cases e : a = 174 ∧ k = pl
  · rw [if_pos e, e.1, e.2]
  · rw [if_neg e, if_neg (by omega), if_neg (by omega)]
abbrev fitB (S : Nat → Int32) (N : Nat) (x : Int32) (g : Int32 → Int32) (j : Nat) : Bool := decide (sSeen S N x (g (nI j)))
theorem seen_up {S : Nat → Int32} {pl N : Nat} {v x age : Int32} (h : pl < 73) : sSeen (upS S pl v) N x age ↔ sSeen S N x age := by
  have e : ∀ j, upS S pl v (73 + j) = S (73 + j) ∧ upS S pl v (78 + j) = S (78 + j) := fun j => by
    unfold upS
    rw [if_neg (by omega), if_neg (by omega)]
    exact ⟨rfl, rfl⟩
  unfold sSeen
  constructor
  · intro q j hj e2
    rw [← (e j).2]
    exact q j hj ((e j).1.trans e2)
  · intro q j hj e2
    rw [(e j).2]
    exact q j hj ((e j).1.symm.trans e2)
set_option maxRecDepth 4000 in
theorem qX8_looksForFitting (n : Nat) (mi : MI) (mr : MR) (c : CT) (hR : RF mr) (hn : 186 ≤ n) (hBD : BD (mi 174) c) (x q top : Int32) (p pl T1 : Nat) (hx : x.toInt = (p : Int)) (hp : p < cN c) (hq : q.toInt = (pl : Int)) (hpl : 20 ≤ pl ∧ pl < 44) (htop : top.toInt = (T1 : Int)) (hT : T1 < 500) (g : Int32 → Int32) (hB2 : ∀ v, natTo v (T1 + 1) → BD (upS (mi 174) pl v) c) (hg : ∀ v, sAge (upS (mi 174) pl v) p (upS (mi 174) pl v (1 + p)) = g v) : Ct KX8_looksForFitting 5 0 0 [.ref 173, .int x, .int q, .int top] n mi mr (eqQ none n (fM mi pl (fit (fitB (mi 174) (cS c) x g) (T1 + 1) (T1 + 1)).1 (fit (fitB (mi 174) (cS c) x g) (T1 + 1) (T1 + 1)).2 (mi 174 pl)) mr) := by
  refine Ct.of2 [some (.ref 173), some (.int x), some (.int q), some (.int top), none, none, none] (by decide +kernel) (Nat.le_of_ble_eq_true rfl) rfl ?_
  obtain ⟨⟨hN, hN6⟩, ⟨hW, hW5⟩, ⟨hL, hL5⟩, ⟨hT, hT100⟩, ⟨hS, hS5⟩, ⟨hP, hP8⟩, ⟨hBk, hB8⟩⟩ := hBD.1
  refine V_aload_n dX8_looksForFitting_0 rfl ?_
  refine V_getr (b := 174) 8 1 dX8_looksForFitting_1 (Or.inl lkX8_9) rfl rfl ⟨by omega, by omega⟩ (hR _ _ _ rfl) ?_
  refine V_iload_n dX8_looksForFitting_4 rfl ?_
  refine V_iald (len := 938) pl dX8_looksForFitting_5 rfl ⟨by omega, by omega⟩ hq (by omega) ?_
  refine V_istore (L' := [_, _, _, _, _, _, _]) dX8_looksForFitting_6 (by decide) rfl rfl ?_
  refine V_aload_n dX8_looksForFitting_8 rfl ?_
  refine V_iconst (v := 0) dX8_looksForFitting_9 rfl ?_
  refine V_puti 8 22 dX8_looksForFitting_10 (Or.inl lkX8_249) rfl rfl rfl rfl ⟨by omega, by omega⟩ ?_
  refine V_aload_n dX8_looksForFitting_13 rfl ?_
  refine V_bipush (v := -5) dX8_looksForFitting_14 rfl ?_
  refine V_puti 8 23 dX8_looksForFitting_16 (Or.inl lkX8_252) rfl rfl rfl rfl ⟨by omega, by omega⟩ ?_
  refine V_iload_n dX8_looksForFitting_19 rfl ?_
  refine V_istore (L' := [_, _, _, _, _, _, _]) dX8_looksForFitting_20 (by decide) rfl rfl ?_
  rw [fM_0 (pl := pl)]
  have loop : ∀ (m i : Nat) (mn fs cur y : Int32) (z : Option Value), i + m = T1 + 1 → y.toInt = (T1 : Int) - (i : Int) → fit (fitB (mi 174) (cS c) x g) (T1 + 1) i = (mn, fs) → V KX8_looksForFitting 5 0 0 (eqQ none n (fM mi pl (fit (fitB (mi 174) (cS c) x g) (T1 + 1) (T1 + 1)).1 (fit (fitB (mi 174) (cS c) x g) (T1 + 1) (T1 + 1)).2 (mi 174 pl)) mr) 22 [some (.ref 173), some (.int x), some (.int q), some (.int top), some (.int (mi 174 pl)), some (.int y), z] [] n (fM mi pl mn fs cur) mr := by
    intro m
    induction m with
    | zero =>
      intro i mn fs cur y z him hy ha
      refine V_iload dX8_looksForFitting_22 rfl ?_
      refine V_if_lt (tgt := 90) dX8_looksForFitting_24 (by decide) (fun c24 => ?_) (fun c24 => absurd ((lt0_iff hy).mpr (by omega)) c24)
      refine V_aload_n dX8_looksForFitting_90 rfl ?_
      refine V_getr (b := 174) 8 1 dX8_looksForFitting_91 (Or.inl lkX8_9) rfl rfl ⟨by omega, by omega⟩ (hR _ _ _ rfl) ?_
      refine V_iload_n dX8_looksForFitting_94 rfl ?_
      refine V_iload dX8_looksForFitting_95 rfl ?_
      refine V_iast (len := 938) pl dX8_looksForFitting_97 rfl ⟨by omega, by omega⟩ hq (by omega) ?_
      refine V_ret dX8_looksForFitting_98 rfl ?_
      have hi : i = T1 + 1 := by omega
      subst hi
      rw [fM_pl]
      exact ⟨rfl, rfl, by rw [ha], rfl⟩
    | succ m ih =>
      intro i mn fs cur y z him hy ha
      refine V_iload dX8_looksForFitting_22 rfl ?_
      refine V_if_lt (tgt := 90) dX8_looksForFitting_24 (by decide) (fun c24 => absurd ((lt0_iff hy).mp c24) (by omega)) (fun c24 => ?_)
      refine V_aload_n dX8_looksForFitting_27 rfl ?_
      refine V_getr (b := 174) 8 1 dX8_looksForFitting_28 (Or.inl lkX8_9) rfl rfl ⟨by omega, by omega⟩ (hR _ _ _ rfl) ?_
      refine V_iload_n dX8_looksForFitting_31 rfl ?_
      refine V_iload dX8_looksForFitting_32 rfl ?_
      refine V_iast (len := 938) pl dX8_looksForFitting_34 rfl ⟨by omega, by omega⟩ hq (by omega) ?_
      rw [fM_pl]
      have hyn : y.toInt = ((T1 - i : Nat) : Int) := by omega
      have hB3 : BD (fM mi pl mn fs y 174) c := by
        rw [fM_row]
        exact hB2 y ⟨_, hyn, by omega⟩
      refine V_aload_n dX8_looksForFitting_35 rfl ?_
      refine V_iload_n dX8_looksForFitting_36 rfl ?_
      refine V_aload_n dX8_looksForFitting_37 rfl ?_
      refine V_iload_n dX8_looksForFitting_38 rfl ?_
      refine V_callV (ci := 8) (qX8_ageOf _ _ _ hR hn (cN c) hN6 hB3.okS _ p hx hp) dX8_looksForFitting_39 mlX8_155 mtX8_ageOf ivX8_ageOf rfl rfl ⟨by omega, by omega⟩ (by decide) rfl rfl (by decide) (Nat.le_of_ble_eq_true rfl) rfl rfl ?_
      rintro _ _ _ _ ⟨rfl, rfl, rfl, rfl⟩
      refine V_callV (ci := 8) (qX8_isAsSeen _ _ _ c hR hn hB3 _ _) dX8_looksForFitting_42 mlX8_246 mtX8_isAsSeen ivX8_isAsSeen rfl rfl ⟨by omega, by omega⟩ (by decide) rfl rfl (by decide) (Nat.le_of_ble_eq_true rfl) rfl rfl ?_
      rintro _ _ _ _ ⟨rfl, rfl, rfl, rfl⟩
      rw [fM_row, hg, b01_iff (seen_up (by omega))]
      refine V_istore (L' := [_, _, _, _, _, _, _]) dX8_looksForFitting_45 (by decide) rfl rfl ?_
      skip
      refine V_aload_n dX8_looksForFitting_47 rfl ?_
      refine V_dup dX8_looksForFitting_48 rfl ?_
      refine V_geti 8 22 dX8_looksForFitting_49 (Or.inl lkX8_249) rfl rfl ⟨by omega, by omega⟩ ?_
      refine V_iload dX8_looksForFitting_52 rfl ?_
      refine V_if_eq (tgt := 61) dX8_looksForFitting_54 (by decide) (fun c54 => ?_) (fun c54 => ?_)
      · refine V_iconst (v := 0) dX8_looksForFitting_61 rfl ?_
        refine V_iadd dX8_looksForFitting_62 ?_
        refine V_puti 8 22 dX8_looksForFitting_63 (Or.inl lkX8_249) rfl rfl rfl rfl ⟨by omega, by omega⟩ ?_
        rw [fM_r22, fM_22]
        refine V_aload_n dX8_looksForFitting_66 rfl ?_
        refine V_iload dX8_looksForFitting_67 rfl ?_
        refine V_if_eq (tgt := 77) dX8_looksForFitting_69 (by decide) (fun c69 => ?_) (fun c69 => ?_)
        · refine V_aload_n dX8_looksForFitting_77 rfl ?_
          refine V_geti 8 23 dX8_looksForFitting_78 (Or.inl lkX8_252) rfl rfl ⟨by omega, by omega⟩ ?_
          refine V_puti 8 23 dX8_looksForFitting_81 (Or.inl lkX8_252) rfl rfl rfl rfl ⟨by omega, by omega⟩ ?_
          (try rw [fM_r23])
          rw [fM_23]
          refine V_iinc (v := _ + (-1)) (L' := [_, _, _, _, _, _, _]) dX8_looksForFitting_84 (by decide) rfl rfl rfl rfl ?_
          refine V_goto (tgt := 22) dX8_looksForFitting_87 (by decide) ?_
          simp only [b01_0, Classical.not_not] at c54 c69
          refine ih (i + 1) _ _ _ _ _ (by omega) (dec_toInt hy (by omega) (by omega)) ?_
          unfold fit
          rw [ha, show T1 + 1 - 1 - i = T1 - i by omega]
          rw [nI_of_toInt hyn] at c54 c69
          by_cases hq : sSeen (mi 174) (cS c) x (g (nI (T1 - i)))
          · first
            | (rw [if_pos (decide_eq_true hq), ← nI_of_toInt hyn]; done)
            | exact absurd hq c54
            | exact absurd hq c69
          · first
            | (rw [if_neg (fun h => hq (of_decide_eq_true h)), Int32.add_zero]; done)
            | exact absurd c54 hq
            | exact absurd c69 hq
        · refine V_iload dX8_looksForFitting_72 rfl ?_
          refine V_goto (tgt := 81) dX8_looksForFitting_74 (by decide) ?_
          refine V_puti 8 23 dX8_looksForFitting_81 (Or.inl lkX8_252) rfl rfl rfl rfl ⟨by omega, by omega⟩ ?_
          (try rw [fM_r23])
          rw [fM_23]
          refine V_iinc (v := _ + (-1)) (L' := [_, _, _, _, _, _, _]) dX8_looksForFitting_84 (by decide) rfl rfl rfl rfl ?_
          refine V_goto (tgt := 22) dX8_looksForFitting_87 (by decide) ?_
          simp only [b01_0, Classical.not_not] at c54 c69
          refine ih (i + 1) _ _ _ _ _ (by omega) (dec_toInt hy (by omega) (by omega)) ?_
          unfold fit
          rw [ha, show T1 + 1 - 1 - i = T1 - i by omega]
          rw [nI_of_toInt hyn] at c54 c69
          by_cases hq : sSeen (mi 174) (cS c) x (g (nI (T1 - i)))
          · first
            | (rw [if_pos (decide_eq_true hq), ← nI_of_toInt hyn]; done)
            | exact absurd hq c54
            | exact absurd hq c69
          · first
            | (rw [if_neg (fun h => hq (of_decide_eq_true h)), Int32.add_zero]; done)
            | exact absurd c54 hq
            | exact absurd c69 hq
      · refine V_iconst (v := 1) dX8_looksForFitting_57 rfl ?_
        refine V_goto (tgt := 62) dX8_looksForFitting_58 (by decide) ?_
        refine V_iadd dX8_looksForFitting_62 ?_
        refine V_puti 8 22 dX8_looksForFitting_63 (Or.inl lkX8_249) rfl rfl rfl rfl ⟨by omega, by omega⟩ ?_
        rw [fM_r22, fM_22]
        refine V_aload_n dX8_looksForFitting_66 rfl ?_
        refine V_iload dX8_looksForFitting_67 rfl ?_
        refine V_if_eq (tgt := 77) dX8_looksForFitting_69 (by decide) (fun c69 => ?_) (fun c69 => ?_)
        · refine V_aload_n dX8_looksForFitting_77 rfl ?_
          refine V_geti 8 23 dX8_looksForFitting_78 (Or.inl lkX8_252) rfl rfl ⟨by omega, by omega⟩ ?_
          refine V_puti 8 23 dX8_looksForFitting_81 (Or.inl lkX8_252) rfl rfl rfl rfl ⟨by omega, by omega⟩ ?_
          (try rw [fM_r23])
          rw [fM_23]
          refine V_iinc (v := _ + (-1)) (L' := [_, _, _, _, _, _, _]) dX8_looksForFitting_84 (by decide) rfl rfl rfl rfl ?_
          refine V_goto (tgt := 22) dX8_looksForFitting_87 (by decide) ?_
          simp only [b01_0, Classical.not_not] at c54 c69
          refine ih (i + 1) _ _ _ _ _ (by omega) (dec_toInt hy (by omega) (by omega)) ?_
          unfold fit
          rw [ha, show T1 + 1 - 1 - i = T1 - i by omega]
          rw [nI_of_toInt hyn] at c54 c69
          by_cases hq : sSeen (mi 174) (cS c) x (g (nI (T1 - i)))
          · first
            | (rw [if_pos (decide_eq_true hq), ← nI_of_toInt hyn]; done)
            | exact absurd hq c54
            | exact absurd hq c69
          · first
            | (rw [if_neg (fun h => hq (of_decide_eq_true h)), Int32.add_zero]; done)
            | exact absurd c54 hq
            | exact absurd c69 hq
        · refine V_iload dX8_looksForFitting_72 rfl ?_
          refine V_goto (tgt := 81) dX8_looksForFitting_74 (by decide) ?_
          refine V_puti 8 23 dX8_looksForFitting_81 (Or.inl lkX8_252) rfl rfl rfl rfl ⟨by omega, by omega⟩ ?_
          (try rw [fM_r23])
          rw [fM_23]
          refine V_iinc (v := _ + (-1)) (L' := [_, _, _, _, _, _, _]) dX8_looksForFitting_84 (by decide) rfl rfl rfl rfl ?_
          refine V_goto (tgt := 22) dX8_looksForFitting_87 (by decide) ?_
          simp only [b01_0, Classical.not_not] at c54 c69
          refine ih (i + 1) _ _ _ _ _ (by omega) (dec_toInt hy (by omega) (by omega)) ?_
          unfold fit
          rw [ha, show T1 + 1 - 1 - i = T1 - i by omega]
          rw [nI_of_toInt hyn] at c54 c69
          by_cases hq : sSeen (mi 174) (cS c) x (g (nI (T1 - i)))
          · first
            | (rw [if_pos (decide_eq_true hq), ← nI_of_toInt hyn]; done)
            | exact absurd hq c54
            | exact absurd hq c69
          · first
            | (rw [if_neg (fun h => hq (of_decide_eq_true h)), Int32.add_zero]; done)
            | exact absurd c54 hq
            | exact absurd c69 hq
  exact loop (T1 + 1) 0 _ _ _ _ _ (by omega) (by rw [htop]; omega) rfl
