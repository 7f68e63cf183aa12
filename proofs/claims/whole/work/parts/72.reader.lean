theorem up2_up {mi : MI} {a k : Nat} {x y : Int32} : up2 (up2 mi a k x) a k y = up2 mi a k y := by
  funext i j
  simp only [up2]
  split <;> rfl
theorem up2_id {mi : MI} {a k : Nat} {x : Int32} (h : mi a k = x) : up2 mi a k x = mi := by
  funext i j
  simp only [up2]
  split
  · rename_i e
    rw [e.1, e.2, h]
  · rfl
/-- the reader at rd stands at p of a tape T of E signs -/
def RdS (mi : MI) (rd : Nat) (T : Nat → Int32) (E p : Nat) : Prop := (mi rd 1).toInt = (E : Int) ∧ mi rd 3 = nI p ∧ ∀ j, j < E → mi 44 j = T j
theorem RdS.go {mi : MI} {rd : Nat} {T : Nat → Int32} {E p q : Nat} (h : RdS mi rd T E p) (hrd : 186 ≤ rd) : RdS (up2 mi rd 3 (nI q)) rd T E q := by
  refine ⟨?_, up2_s, fun j hj => ?_⟩
  · rw [up2_k (by decide)]
    exact h.1
  · rw [up2_row (by omega)]
    exact h.2.2 j hj
theorem RdS.i {mi : MI} {rd : Nat} {T : Nat → Int32} {E p : Nat} (h : RdS mi rd T E p) (hp : p ≤ E) (hE : E ≤ 100) : (mi rd 3).toInt = (p : Int) := by
  rw [h.2.1]
  exact nI_toInt (by omega)
theorem tk_in {T : Nat → Int32} {E p : Nat} (h : p < E) : tk T E p = T p := if_pos h
theorem tk_out {T : Nat → Int32} {E p : Nat} (h : ¬ p < E) : tk T E p = -1 := if_neg h
theorem nI_p1 {p : Nat} : nI p + 1 = nI (p + 1) := (nI_succ p).symm
set_option maxRecDepth 4000 in
theorem qX2_takes (n : Nat) (mr : MR) (hR : RF mr) (hn : 186 ≤ n) (rd va : Nat) (hrd : 186 ≤ rd) (hrdn : rd < n) (hrd0 : mr rd 0 = some 44) (hrd2 : mr rd 2 = some va) (hva : isV va) (T : Nat → Int32) (E : Nat) (hE : E ≤ 100) (hT : ∀ j, j < E → 0 ≤ T j ∧ T j ≤ 127) (mi : MI) (p : Nat) (hp : p ≤ E) (hSt : RdS mi rd T E p) (x : Int32) (hx : x ≠ -1)  : Ct KX2_takes 1 0 0 [.ref rd, .int x] n mi mr (eqQ (some (.int (b01 (tk T E p = x)))) n (up2 mi rd 3 (nI (if tk T E p = x then p + 1 else p))) mr) := by
  refine Ct.of2 [some (.ref rd), some (.int x)] (by decide +kernel) (Nat.le_of_ble_eq_true rfl) rfl ?_
  have hpi := hSt.i hp hE
  refine V_aload_n dX2_takes_0 rfl ?_
  refine V_geti 2 3 dX2_takes_1 (Or.inl lkX2_32) rfl (sRd hrd) ⟨by omega, by omega⟩ ?_
  refine V_aload_n dX2_takes_4 rfl ?_
  refine V_geti 2 1 dX2_takes_5 (Or.inl lkX2_15) rfl (sRd hrd) ⟨by omega, by omega⟩ ?_
  refine V_icmp_ge (tgt := 24) dX2_takes_8 (by decide) (fun c8 => ?_) (fun c8 => ?_)
  · refine V_iconst (v := 0) dX2_takes_24 rfl ?_
    refine V_iret dX2_takes_25 rfl rfl ?_
    first
      | (have e : ¬ tk T E p = x := by
           rw [tk_out (fun h => absurd ((le_nat hSt.1 hpi).mp c8) (by omega))]
           exact fun e => hx e.symm
         rw [if_neg e]
         exact ⟨congrArg (fun v => some (Value.int v)) (b01_f e), rfl, up2_id hSt.2.1, rfl⟩)
      | (have e : ¬ tk T E p = x := by
           rw [tk_in hpE, ← hSt.2.2 p hpE]
           exact c21
         rw [if_neg e]
         exact ⟨congrArg (fun v => some (Value.int v)) (b01_f e), rfl, up2_id hSt.2.1, rfl⟩)
  · have hpE : p < E := Nat.not_le.mp (fun h => c8 ((le_nat hSt.1 hpi).mpr h))
    refine V_aload_n dX2_takes_11 rfl ?_
    refine V_getr (b := 44) 2 0 dX2_takes_12 (Or.inl lkX2_9) rfl (sRd hrd) ⟨by omega, by omega⟩ hrd0 ?_
    refine V_aload_n dX2_takes_15 rfl ?_
    refine V_geti 2 3 dX2_takes_16 (Or.inl lkX2_32) rfl (sRd hrd) ⟨by omega, by omega⟩ ?_
    refine V_cald (len := 100) p dX2_takes_19 rfl ⟨by omega, by omega⟩ hpi (by omega) ?_
    refine V_iload_n dX2_takes_20 rfl ?_
    refine V_icmp_eq (tgt := 26) dX2_takes_21 (by decide) (fun c21 => ?_) (fun c21 => ?_)
    · refine V_aload_n dX2_takes_26 rfl ?_
      refine V_dup dX2_takes_27 rfl ?_
      refine V_geti 2 3 dX2_takes_28 (Or.inl lkX2_32) rfl (sRd hrd) ⟨by omega, by omega⟩ ?_
      refine V_iconst (v := 1) dX2_takes_31 rfl ?_
      refine V_iadd dX2_takes_32 ?_
      refine V_puti 2 3 dX2_takes_33 (Or.inl lkX2_32) rfl rfl rfl (sRd hrd) ⟨by omega, by omega⟩ ?_
      refine V_iconst (v := 1) dX2_takes_36 rfl ?_
      refine V_iret dX2_takes_37 rfl rfl ?_
      have e : tk T E p = x := by
        rw [tk_in hpE, ← hSt.2.2 p hpE]
        exact c21
      rw [if_pos e]
      refine ⟨congrArg (fun v => some (Value.int v)) (b01_t e), rfl, ?_, rfl⟩
      rw [hSt.2.1, nI_p1]
    · refine V_iconst (v := 0) dX2_takes_24 rfl ?_
      refine V_iret dX2_takes_25 rfl rfl ?_
      first
        | (have e : ¬ tk T E p = x := by
             rw [tk_out (fun h => absurd ((le_nat hSt.1 hpi).mp c8) (by omega))]
             exact fun e => hx e.symm
           rw [if_neg e]
           exact ⟨congrArg (fun v => some (Value.int v)) (b01_f e), rfl, up2_id hSt.2.1, rfl⟩)
        | (have e : ¬ tk T E p = x := by
             rw [tk_in hpE, ← hSt.2.2 p hpE]
             exact c21
           rw [if_neg e]
           exact ⟨congrArg (fun v => some (Value.int v)) (b01_f e), rfl, up2_id hSt.2.1, rfl⟩)
set_option maxRecDepth 4000 in
theorem qX2_takesAll (n : Nat) (mr : MR) (hR : RF mr) (hn : 186 ≤ n) (rd va : Nat) (hrd : 186 ≤ rd) (hrdn : rd < n) (hrd0 : mr rd 0 = some 44) (hrd2 : mr rd 2 = some va) (hva : isV va) (T : Nat → Int32) (E : Nat) (hE : E ≤ 100) (hT : ∀ j, j < E → 0 ≤ T j ∧ T j ≤ 127) (mi : MI) (p : Nat) (hp : p ≤ E) (hSt : RdS mi rd T E p) (k : Nat) (hk : k < 8) : Ct KX2_takesAll 5 0 0 [.ref rd, .ref (4 + k)] n mi mr (eqQ (some (.int (b01 ((pLit T E (xB k) (xL k) 0 p).2 = true)))) n (up2 mi rd 3 (nI ((pLit T E (xB k) (xL k) 0 p).1))) mr) := by
  refine Ct.of2 [some (.ref rd), some (.ref (4 + k)), none] (by decide +kernel) (Nat.le_of_ble_eq_true rfl) rfl ?_
  obtain ⟨-, hl1, hl6, -⟩ := xL_dec ⟨k, hk⟩
  have hl1 : (nI (xL k)).toInt = (xL k : Int) := hl1
  have hl6 : xL k ≤ 6 := hl6
  have loop : ∀ (m i q : Nat) (u : Int32), i + m = xL k → u.toInt = (i : Int) → q ≤ E → pLit T E (xB k) m i q = pLit T E (xB k) (xL k) 0 p → V KX2_takesAll 5 0 0 (eqQ (some (.int (b01 ((pLit T E (xB k) (xL k) 0 p).2 = true)))) n (up2 mi rd 3 (nI ((pLit T E (xB k) (xL k) 0 p).1))) mr) 2 [some (.ref rd), some (.ref (4 + k)), some (.int u)] [] n (up2 mi rd 3 (nI (q))) mr := by
    intro m
    induction m with
    | zero =>
      intro i q u him hu hq hl
      have hl0 : pLit T E (xB k) (xL k) 0 p = (q, true) := hl.symm
      refine V_iload_n dX2_takesAll_2 rfl ?_
      refine V_aload_n dX2_takesAll_3 rfl ?_
      refine V_callVs (k := k) (qJ0_length n _ mr k hk) dX2_takesAll_4 mlX2_96 mtJ0_length_8abf5 ivJ0_length_8abf5 rfl hk rfl rfl (by decide) (Nat.le_of_ble_eq_true rfl) rfl rfl ?_
      rintro _ _ _ _ ⟨rfl, rfl, rfl, rfl⟩
      refine V_icmp_ge (tgt := 30) dX2_takesAll_7 (by decide) (fun c7 => ?_) (fun c7 => absurd ((le_nat hl1 hu).mpr (by omega)) c7)
      refine V_iconst (v := 1) dX2_takesAll_30 rfl ?_
      refine V_iret dX2_takesAll_31 rfl rfl ?_
      rw [hl0]
      exact ⟨congrArg (fun v => some (Value.int v)) (b01_t rfl), rfl, rfl, rfl⟩
    | succ m ih =>
      intro i q u him hu hq hl
      have hne := xB_ne ⟨k, hk⟩ ⟨i, by omega⟩ (by show i < xL k; omega)
      have hne : xB k i ≠ -1 := hne
      have e1 : pLit T E (xB k) (m + 1) i q = if tk T E q = xB k i then pLit T E (xB k) m (i + 1) (q + 1) else (q, false) := rfl
      refine V_iload_n dX2_takesAll_2 rfl ?_
      refine V_aload_n dX2_takesAll_3 rfl ?_
      refine V_callVs (k := k) (qJ0_length n _ mr k hk) dX2_takesAll_4 mlX2_96 mtJ0_length_8abf5 ivJ0_length_8abf5 rfl hk rfl rfl (by decide) (Nat.le_of_ble_eq_true rfl) rfl rfl ?_
      rintro _ _ _ _ ⟨rfl, rfl, rfl, rfl⟩
      refine V_icmp_ge (tgt := 30) dX2_takesAll_7 (by decide) (fun c7 => absurd ((le_nat hl1 hu).mp c7) (by omega)) (fun c7 => ?_)
      refine V_aload_n dX2_takesAll_10 rfl ?_
      refine V_aload_n dX2_takesAll_11 rfl ?_
      refine V_iload_n dX2_takesAll_12 rfl ?_
      refine V_callVs (k := k) (qJ0_charAt n _ mr k hk _ i hu (by omega)) dX2_takesAll_13 mlX2_99 mtJ0_charAt_5068e ivJ0_charAt_5068e rfl hk rfl rfl (by decide) (Nat.le_of_ble_eq_true rfl) rfl rfl ?_
      rintro _ _ _ _ ⟨rfl, rfl, rfl, rfl⟩
      refine V_callV (ci := 2) (qX2_takes n mr hR hn rd va hrd hrdn hrd0 hrd2 hva T E hE hT _ q hq (hSt.go hrd) _ hne) dX2_takesAll_16 mlX2_35 mtX2_takes ivX2_takes rfl (sRd hrd) ⟨by omega, by omega⟩ (by decide) rfl rfl (by decide) (Nat.le_of_ble_eq_true rfl) rfl rfl ?_
      rintro _ _ _ _ ⟨rfl, rfl, rfl, rfl⟩
      refine V_if_ne (tgt := 24) dX2_takesAll_19 (by decide) (fun c19 => ?_) (fun c19 => ?_)
      · refine V_iinc (v := _ + (1)) (L' := [_, _, _]) dX2_takesAll_24 (by decide) rfl rfl rfl rfl ?_
        refine V_goto (tgt := 2) dX2_takesAll_27 (by decide) ?_
        have e : tk T E q = xB k i := b01_n.mp c19
        have hqE := tk_is e hne
        rw [if_pos e] at e1
        rw [if_pos e, up2_up]
        exact ih (i + 1) (q + 1) _ (by omega) (ix_add hu (by decide) (by omega)) (by omega) (e1.symm.trans hl)
      · refine V_iconst (v := 0) dX2_takesAll_22 rfl ?_
        refine V_iret dX2_takesAll_23 rfl rfl ?_
        have e : ¬ tk T E q = xB k i := b01_0.mp c19
        rw [if_neg e] at e1
        rw [if_neg e, ← hl, e1, up2_up]
        exact ⟨congrArg (fun v => some (Value.int v)) (b01_f (fun h => Bool.noConfusion h)), rfl, rfl, rfl⟩
  refine V_iconst (v := 0) dX2_takesAll_0 rfl ?_
  refine V_istore_n (L' := [_, _, _]) dX2_takesAll_1 (by decide) rfl rfl ?_
  have h0 := loop (xL k) 0 p 0 (Nat.zero_add _) rfl hp rfl
  rw [up2_id hSt.2.1] at h0
  exact h0
theorem tk_ch {T : Nat → Int32} {E p : Nat} (hT : ∀ j, j < E → 0 ≤ T j ∧ T j ≤ 127) (h : p < E) : 0 ≤ tk T E p ∧ tk T E p ≤ 127 := by
  rw [tk_in h]
  exact hT p h
theorem fndV_neg {o : Option Nat} (h : ∀ j, o = some j → j < 100) : fndV o < 0 ↔ o = none := by
  cases o with
  | none => exact ⟨fun _ => rfl, fun _ => by show (-1 : Int32) < 0; decide⟩
  | some j =>
    have := h j rfl
    refine ⟨fun q => ?_, fun q => by cases q⟩
    have q2 : nI j < 0 := q
    rw [Int32.lt_iff_toInt_lt, nI_toInt (by omega)] at q2
    simp only [Int32.reduceToInt] at q2
    omega
theorem fnd_100 {g : Nat → Int32} {x : Int32} {m i : Nat} (h : i + m ≤ 100) : ∀ j, fnd g x m i = some j → j < 100 := fun j hj => by
  have := fnd_lt hj
  omega
theorem none_at {k : Nat} (h : k = 4 ∨ k = 5) : fnd (xB k) (-1) (xL k) 0 = none ∧ 0 < xL k ∧ xL k ≤ 6 := by rcases h with rfl | rfl <;> decide +kernel
set_option maxRecDepth 4000 in
theorem qX2_readOneOf (n : Nat) (mr : MR) (hR : RF mr) (hn : 186 ≤ n) (rd va : Nat) (hrd : 186 ≤ rd) (hrdn : rd < n) (hrd0 : mr rd 0 = some 44) (hrd2 : mr rd 2 = some va) (hva : isV va) (T : Nat → Int32) (E : Nat) (hE : E ≤ 100) (hT : ∀ j, j < E → 0 ≤ T j ∧ T j ≤ 127) (mi : MI) (p : Nat) (hp : p ≤ E) (hSt : RdS mi rd T E p) (k : Nat) (hk : k < 8) (hk2 : k = 4 ∨ k = 5)  : Ct KX2_readOneOf 5 0 0 [.ref rd, .ref (4 + k)] n mi mr (eqQ (some (.int (fndV (fnd (xB k) (tk T E p) (xL k) 0)))) n (up2 mi rd 3 (nI (if fnd (xB k) (tk T E p) (xL k) 0 = none then p else p + 1))) mr) := by
  refine Ct.of2 [some (.ref rd), some (.ref (4 + k)), none] (by decide +kernel) (Nat.le_of_ble_eq_true rfl) rfl ?_
  have hpi := hSt.i hp hE
  have hnn := none_at hk2
  refine V_aload_n dX2_readOneOf_0 rfl ?_
  refine V_geti 2 3 dX2_readOneOf_1 (Or.inl lkX2_32) rfl (sRd hrd) ⟨by omega, by omega⟩ ?_
  refine V_aload_n dX2_readOneOf_4 rfl ?_
  refine V_geti 2 1 dX2_readOneOf_5 (Or.inl lkX2_15) rfl (sRd hrd) ⟨by omega, by omega⟩ ?_
  refine V_icmp_ge (tgt := 27) dX2_readOneOf_8 (by decide) (fun c8 => ?_) (fun c8 => ?_)
  · refine V_iconst (v := -1) dX2_readOneOf_27 rfl ?_
    refine V_istore_n (L' := [_, _, _]) dX2_readOneOf_28 (by decide) rfl rfl ?_
    refine V_iload_n dX2_readOneOf_29 rfl ?_
    refine V_if_lt (tgt := 43) dX2_readOneOf_30 (by decide) (fun c30 => ?_) (fun c30 => ?_)
    · refine V_iload_n dX2_readOneOf_43 rfl ?_
      refine V_iret dX2_readOneOf_44 rfl rfl ?_
      first
        | (have e : fnd (xB k) (tk T E p) (xL k) 0 = none := (fndV_neg (fnd_100 (by omega))).mp c30
           rw [if_pos e]
           exact ⟨rfl, rfl, up2_id hSt.2.1, rfl⟩)
        | (have e : ¬ fnd (xB k) (tk T E p) (xL k) 0 = none := fun h => c30 ((fndV_neg (fnd_100 (by omega))).mpr h)
           rw [if_neg e]
           refine ⟨rfl, rfl, ?_, rfl⟩
           rw [hSt.2.1, nI_p1])
        | (have e : fnd (xB k) (tk T E p) (xL k) 0 = none := by
             rw [tk_out (fun h => absurd ((le_nat hSt.1 hpi).mp c8) (by omega))]
             exact hnn.1
           rw [if_pos e, e]
           exact ⟨rfl, rfl, up2_id hSt.2.1, rfl⟩)
        | exact absurd (show (-1 : Int32) < 0 by decide) c30
    · refine V_aload_n dX2_readOneOf_33 rfl ?_
      refine V_dup dX2_readOneOf_34 rfl ?_
      refine V_geti 2 3 dX2_readOneOf_35 (Or.inl lkX2_32) rfl (sRd hrd) ⟨by omega, by omega⟩ ?_
      refine V_iconst (v := 1) dX2_readOneOf_38 rfl ?_
      refine V_iadd dX2_readOneOf_39 ?_
      refine V_puti 2 3 dX2_readOneOf_40 (Or.inl lkX2_32) rfl rfl rfl (sRd hrd) ⟨by omega, by omega⟩ ?_
      refine V_iload_n dX2_readOneOf_43 rfl ?_
      refine V_iret dX2_readOneOf_44 rfl rfl ?_
      first
        | (have e : fnd (xB k) (tk T E p) (xL k) 0 = none := (fndV_neg (fnd_100 (by omega))).mp c30
           rw [if_pos e]
           exact ⟨rfl, rfl, up2_id hSt.2.1, rfl⟩)
        | (have e : ¬ fnd (xB k) (tk T E p) (xL k) 0 = none := fun h => c30 ((fndV_neg (fnd_100 (by omega))).mpr h)
           rw [if_neg e]
           refine ⟨rfl, rfl, ?_, rfl⟩
           rw [hSt.2.1, nI_p1])
        | (have e : fnd (xB k) (tk T E p) (xL k) 0 = none := by
             rw [tk_out (fun h => absurd ((le_nat hSt.1 hpi).mp c8) (by omega))]
             exact hnn.1
           rw [if_pos e, e]
           exact ⟨rfl, rfl, up2_id hSt.2.1, rfl⟩)
        | exact absurd (show (-1 : Int32) < 0 by decide) c30
  · have hpE : p < E := Nat.not_le.mp (fun h => c8 ((le_nat hSt.1 hpi).mpr h))
    have hch := tk_ch hT hpE
    refine V_aload_n dX2_readOneOf_11 rfl ?_
    refine V_aload_n dX2_readOneOf_12 rfl ?_
    refine V_getr (b := 44) 2 0 dX2_readOneOf_13 (Or.inl lkX2_9) rfl (sRd hrd) ⟨by omega, by omega⟩ hrd0 ?_
    refine V_aload_n dX2_readOneOf_16 rfl ?_
    refine V_geti 2 3 dX2_readOneOf_17 (Or.inl lkX2_32) rfl (sRd hrd) ⟨by omega, by omega⟩ ?_
    refine V_cald (len := 100) p dX2_readOneOf_20 rfl ⟨by omega, by omega⟩ hpi (by omega) ?_
    rw [hSt.2.2 p hpE, ← tk_in (T := T) hpE]
    refine V_callVs (k := k) (qJ0_indexOf n mi mr k hk _ hch.1 hch.2 hnn.2.1) dX2_readOneOf_21 mlX2_90 mtJ0_indexOf_0f7a4 ivJ0_indexOf_0f7a4 rfl hk rfl rfl (by decide) (Nat.le_of_ble_eq_true rfl) rfl rfl ?_
    rintro _ _ _ _ ⟨rfl, rfl, rfl, rfl⟩
    refine V_goto (tgt := 28) dX2_readOneOf_24 (by decide) ?_
    refine V_istore_n (L' := [_, _, _]) dX2_readOneOf_28 (by decide) rfl rfl ?_
    refine V_iload_n dX2_readOneOf_29 rfl ?_
    refine V_if_lt (tgt := 43) dX2_readOneOf_30 (by decide) (fun c30 => ?_) (fun c30 => ?_)
    · refine V_iload_n dX2_readOneOf_43 rfl ?_
      refine V_iret dX2_readOneOf_44 rfl rfl ?_
      first
        | (have e : fnd (xB k) (tk T E p) (xL k) 0 = none := (fndV_neg (fnd_100 (by omega))).mp c30
           rw [if_pos e]
           exact ⟨rfl, rfl, up2_id hSt.2.1, rfl⟩)
        | (have e : ¬ fnd (xB k) (tk T E p) (xL k) 0 = none := fun h => c30 ((fndV_neg (fnd_100 (by omega))).mpr h)
           rw [if_neg e]
           refine ⟨rfl, rfl, ?_, rfl⟩
           rw [hSt.2.1, nI_p1])
        | (have e : fnd (xB k) (tk T E p) (xL k) 0 = none := by
             rw [tk_out (fun h => absurd ((le_nat hSt.1 hpi).mp c8) (by omega))]
             exact hnn.1
           rw [if_pos e, e]
           exact ⟨rfl, rfl, up2_id hSt.2.1, rfl⟩)
        | exact absurd (show (-1 : Int32) < 0 by decide) c30
    · refine V_aload_n dX2_readOneOf_33 rfl ?_
      refine V_dup dX2_readOneOf_34 rfl ?_
      refine V_geti 2 3 dX2_readOneOf_35 (Or.inl lkX2_32) rfl (sRd hrd) ⟨by omega, by omega⟩ ?_
      refine V_iconst (v := 1) dX2_readOneOf_38 rfl ?_
      refine V_iadd dX2_readOneOf_39 ?_
      refine V_puti 2 3 dX2_readOneOf_40 (Or.inl lkX2_32) rfl rfl rfl (sRd hrd) ⟨by omega, by omega⟩ ?_
      refine V_iload_n dX2_readOneOf_43 rfl ?_
      refine V_iret dX2_readOneOf_44 rfl rfl ?_
      first
        | (have e : fnd (xB k) (tk T E p) (xL k) 0 = none := (fndV_neg (fnd_100 (by omega))).mp c30
           rw [if_pos e]
           exact ⟨rfl, rfl, up2_id hSt.2.1, rfl⟩)
        | (have e : ¬ fnd (xB k) (tk T E p) (xL k) 0 = none := fun h => c30 ((fndV_neg (fnd_100 (by omega))).mpr h)
           rw [if_neg e]
           refine ⟨rfl, rfl, ?_, rfl⟩
           rw [hSt.2.1, nI_p1])
        | (have e : fnd (xB k) (tk T E p) (xL k) 0 = none := by
             rw [tk_out (fun h => absurd ((le_nat hSt.1 hpi).mp c8) (by omega))]
             exact hnn.1
           rw [if_pos e, e]
           exact ⟨rfl, rfl, up2_id hSt.2.1, rfl⟩)
        | exact absurd (show (-1 : Int32) < 0 by decide) c30
def numV (o : Option Nat) : Int32 := match o with
  | none => -1
  | some v => nI v
theorem numV_m1 {o : Option Nat} (h : ∀ v, o = some v → v ≤ 99) : numV o = -1 ↔ o = none := by
  cases o with
  | none => exact ⟨fun _ => rfl, fun _ => rfl⟩
  | some v =>
    have := h v rfl
    refine ⟨fun q => ?_, fun q => by cases q⟩
    have q2 : (nI v).toInt = (-1 : Int32).toInt := by
      have q3 : nI v = -1 := q
      rw [q3]
    rw [nI_toInt (by omega)] at q2
    simp only [Int32.reduceToInt] at q2
    omega
theorem dig {x : Int32} (h1 : 0 ≤ x) (h2 : x ≤ 127) : (x - 48).toInt = x.toInt - 48 ∧ (isDg x = true ↔ (¬ x - 48 < 0 ∧ x - 48 ≤ 9)) := by
  rw [Int32.le_iff_toInt_le] at h1 h2
  simp only [Int32.reduceToInt] at h1 h2
  have e : (x - 48).toInt = x.toInt - 48 := i_sub rfl (b := 48) (by decide) (by omega)
  refine ⟨e, ?_⟩
  unfold isDg
  rw [decide_eq_true_iff]
  simp only [Int32.le_iff_toInt_le, Int32.lt_iff_toInt_lt, e, Int32.reduceToInt]
  omega
theorem dig_v {x : Int32} (h1 : 0 ≤ x) (h2 : x ≤ 127) (h : isDg x = true) : x - 48 = nI (dgV x) := by
  refine nI_of_toInt ?_
  rw [(dig h1 h2).1, (dg_v h).1]
  omega
set_option maxRecDepth 4000 in
theorem qX2_readNumber (n : Nat) (mr : MR) (hR : RF mr) (hn : 186 ≤ n) (rd va : Nat) (hrd : 186 ≤ rd) (hrdn : rd < n) (hrd0 : mr rd 0 = some 44) (hrd2 : mr rd 2 = some va) (hva : isV va) (T : Nat → Int32) (E : Nat) (hE : E ≤ 100) (hT : ∀ j, j < E → 0 ≤ T j ∧ T j ≤ 127) (mi : MI) (p : Nat) (hp : p ≤ E) (hSt : RdS mi rd T E p) : Ct KX2_readNumber 1 0 0 [.ref rd] n mi mr (eqQ (some (.int (numV (pNum T E p).2))) n (up2 mi rd 3 (nI ((pNum T E p).1))) mr) := by
  refine Ct.of2 [some (.ref rd), none, none] (by decide +kernel) (Nat.le_of_ble_eq_true rfl) rfl ?_
  have hpi := hSt.i hp hE
  have hbad : ∀ z : Int32, z < 0 ∨ ¬ z ≤ 9 → (isDg (tk T E p) = true → p < E ∧ z = T p - 48) → V KX2_readNumber 1 0 0 (eqQ (some (.int (numV (pNum T E p).2))) n (up2 mi rd 3 (nI ((pNum T E p).1))) mr) 38 [some (.ref rd), some (.int z), none] [] n mi mr := by
    intro z hz hz2
    have e : ¬ isDg (tk T E p) = true := fun h => by
      have h1 := hz2 h
      rw [tk_in h1.1] at h
      have h2 := hT p h1.1
      have h3 := (dig h2.1 h2.2).2.mp h
      rw [← h1.2] at h3
      exact hz.elim h3.1 (fun g => g h3.2)
    have e2 : pNum T E p = (p, none) := if_neg e
    refine V_iconst (v := -1) dX2_readNumber_38 rfl ?_
    refine V_iret dX2_readNumber_39 rfl rfl ?_
    rw [e2]
    exact ⟨rfl, rfl, up2_id hSt.2.1, rfl⟩
  have hgood : isDg (tk T E p) = true → V KX2_readNumber 1 0 0 (eqQ (some (.int (numV (pNum T E p).2))) n (up2 mi rd 3 (nI ((pNum T E p).1))) mr) 40 [some (.ref rd), some (.int (nI (dgV (tk T E p)))), none] [] n mi mr := by
    intro hd
    have hpE := dg_lt hd
    have hdv := (dg_v hd).2
    have hd0 : nI (dgV (tk T E p)) = 0 ↔ dgV (tk T E p) = 0 := eq_nat (nI_toInt (by omega)) (b := 0) rfl
    have hSt1 := hSt.go hrd (q := p + 1)
    have hp1 := hSt1.i (by omega) hE
    have hone : (¬ (dgV (tk T E p) ≠ 0 ∧ isDg (tk T E (p + 1)) = true)) → pNum T E p = (p + 1, some (dgV (tk T E p))) := fun h => by
      unfold pNum
      rw [if_pos hd, if_neg h]
    have htwo : (dgV (tk T E p) ≠ 0 ∧ isDg (tk T E (p + 1)) = true) → pNum T E p = (p + 2, some (10 * dgV (tk T E p) + dgV (tk T E (p + 1)))) := fun h => by
      unfold pNum
      rw [if_pos hd, if_pos h]
    have h78 : ∀ z : Int32, ((¬ z < 0 ∧ z ≤ 9) ↔ isDg (tk T E (p + 1)) = true) → (isDg (tk T E (p + 1)) = true → z = nI (dgV (tk T E (p + 1)))) → V KX2_readNumber 1 0 0 (eqQ (some (.int (numV (pNum T E p).2))) n (up2 mi rd 3 (nI ((pNum T E p).1))) mr) 78 [some (.ref rd), some (.int (nI (dgV (tk T E p)))), some (.int z)] [] n (up2 mi rd 3 (nI (p + 1))) mr := by
      intro z hz1 hz2
      refine V_iload_n dX2_readNumber_78 rfl ?_
      refine V_if_eq (tgt := 92) dX2_readNumber_79 (by decide) (fun c79 => ?_) (fun c79 => ?_)
      · refine V_iload_n dX2_readNumber_92 rfl ?_
        refine V_iret dX2_readNumber_93 rfl rfl ?_
        first
          | (rw [hone (fun h => h.1 (hd0.mp c79))]
             exact ⟨rfl, rfl, rfl, rfl⟩)
          | (rw [hone (fun h => (hz1.mpr h.2).1 c83)]
             exact ⟨rfl, rfl, rfl, rfl⟩)
          | (rw [hone (fun h => c89 (hz1.mpr h.2).2)]
             exact ⟨rfl, rfl, rfl, rfl⟩)
      · refine V_iload_n dX2_readNumber_82 rfl ?_
        refine V_if_lt (tgt := 92) dX2_readNumber_83 (by decide) (fun c83 => ?_) (fun c83 => ?_)
        · refine V_iload_n dX2_readNumber_92 rfl ?_
          refine V_iret dX2_readNumber_93 rfl rfl ?_
          first
            | (rw [hone (fun h => h.1 (hd0.mp c79))]
               exact ⟨rfl, rfl, rfl, rfl⟩)
            | (rw [hone (fun h => (hz1.mpr h.2).1 c83)]
               exact ⟨rfl, rfl, rfl, rfl⟩)
            | (rw [hone (fun h => c89 (hz1.mpr h.2).2)]
               exact ⟨rfl, rfl, rfl, rfl⟩)
        · refine V_iload_n dX2_readNumber_86 rfl ?_
          refine V_bipush (v := 9) dX2_readNumber_87 rfl ?_
          refine V_icmp_le (tgt := 94) dX2_readNumber_89 (by decide) (fun c89 => ?_) (fun c89 => ?_)
          · have hg := hz1.mp (And.intro c83 c89)
            have ht := htwo (And.intro (fun h => c79 (hd0.mpr h)) hg)
            have hv2 := (dg_v hg).2
            rw [hz2 hg]
            refine V_aload_n dX2_readNumber_94 rfl ?_
            refine V_dup dX2_readNumber_95 rfl ?_
            refine V_geti 2 3 dX2_readNumber_96 (Or.inl lkX2_32) rfl (sRd hrd) ⟨by omega, by omega⟩ ?_
            refine V_iconst (v := 1) dX2_readNumber_99 rfl ?_
            refine V_iadd dX2_readNumber_100 ?_
            refine V_puti 2 3 dX2_readNumber_101 (Or.inl lkX2_32) rfl rfl rfl (sRd hrd) ⟨by omega, by omega⟩ ?_
            refine V_bipush (v := 10) dX2_readNumber_104 rfl ?_
            refine V_iload_n dX2_readNumber_106 rfl ?_
            refine V_imul dX2_readNumber_107 ?_
            refine V_iload_n dX2_readNumber_108 rfl ?_
            refine V_iadd dX2_readNumber_109 ?_
            refine V_iret dX2_readNumber_110 rfl rfl ?_
            rw [ht, up2_up]
            refine ⟨?_, rfl, ?_, rfl⟩
            · have e9 : 10 * nI (dgV (tk T E p)) + nI (dgV (tk T E (p + 1))) = nI (10 * dgV (tk T E p) + dgV (tk T E (p + 1))) := nI_of_toInt (ix_add (ix_mul (a := 10) rfl (nI_toInt (by omega)) (by omega)) (nI_toInt (by omega)) (by omega))
              rw [e9]
              rfl
            · rw [up2_s, nI_p1]
          · refine V_iload_n dX2_readNumber_92 rfl ?_
            refine V_iret dX2_readNumber_93 rfl rfl ?_
            first
              | (rw [hone (fun h => h.1 (hd0.mp c79))]
                 exact ⟨rfl, rfl, rfl, rfl⟩)
              | (rw [hone (fun h => (hz1.mpr h.2).1 c83)]
                 exact ⟨rfl, rfl, rfl, rfl⟩)
              | (rw [hone (fun h => c89 (hz1.mpr h.2).2)]
                 exact ⟨rfl, rfl, rfl, rfl⟩)
    refine V_aload_n dX2_readNumber_40 rfl ?_
    refine V_dup dX2_readNumber_41 rfl ?_
    refine V_geti 2 3 dX2_readNumber_42 (Or.inl lkX2_32) rfl (sRd hrd) ⟨by omega, by omega⟩ ?_
    refine V_iconst (v := 1) dX2_readNumber_45 rfl ?_
    refine V_iadd dX2_readNumber_46 ?_
    refine V_puti 2 3 dX2_readNumber_47 (Or.inl lkX2_32) rfl rfl rfl (sRd hrd) ⟨by omega, by omega⟩ ?_
    rw [hSt.2.1, nI_p1]
    refine V_aload_n dX2_readNumber_50 rfl ?_
    refine V_geti 2 3 dX2_readNumber_51 (Or.inl lkX2_32) rfl (sRd hrd) ⟨by omega, by omega⟩ ?_
    refine V_aload_n dX2_readNumber_54 rfl ?_
    refine V_geti 2 1 dX2_readNumber_55 (Or.inl lkX2_15) rfl (sRd hrd) ⟨by omega, by omega⟩ ?_
    refine V_icmp_ge (tgt := 76) dX2_readNumber_58 (by decide) (fun c58 => ?_) (fun c58 => ?_)
    · refine V_iconst (v := -1) dX2_readNumber_76 rfl ?_
      refine V_istore_n (L' := [_, _, _]) dX2_readNumber_77 (by decide) rfl rfl ?_
      first
        | (refine h78 _ ?_ (fun h => ?_)
           · rw [tk_in hp1E]
             exact hdg.2.symm
           · rw [tk_in hp1E] at h ⊢
             exact dig_v hch.1 hch.2 h)
        | (have hno : ¬ isDg (tk T E (p + 1)) = true := fun h => absurd ((le_nat hSt1.1 hp1).mp c58) (by have := dg_lt h; omega)
           exact h78 _ ⟨fun h => absurd (show (-1 : Int32) < 0 by decide) h.1, fun h => absurd h hno⟩ (fun h => absurd h hno))
    · have hp1E : p + 1 < E := Nat.not_le.mp (fun h => c58 ((le_nat hSt1.1 hp1).mpr h))
      have hch := hT (p + 1) hp1E
      have hdg := dig hch.1 hch.2
      refine V_aload_n dX2_readNumber_61 rfl ?_
      refine V_getr (b := 44) 2 0 dX2_readNumber_62 (Or.inl lkX2_9) rfl (sRd hrd) ⟨by omega, by omega⟩ hrd0 ?_
      refine V_aload_n dX2_readNumber_65 rfl ?_
      refine V_geti 2 3 dX2_readNumber_66 (Or.inl lkX2_32) rfl (sRd hrd) ⟨by omega, by omega⟩ ?_
      refine V_cald (len := 100) (p + 1) dX2_readNumber_69 rfl ⟨by omega, by omega⟩ hp1 (by omega) ?_
      rw [hSt1.2.2 (p + 1) hp1E]
      refine V_bipush (v := 48) dX2_readNumber_70 rfl ?_
      refine V_isub dX2_readNumber_72 ?_
      refine V_goto (tgt := 77) dX2_readNumber_73 (by decide) ?_
      refine V_istore_n (L' := [_, _, _]) dX2_readNumber_77 (by decide) rfl rfl ?_
      first
        | (refine h78 _ ?_ (fun h => ?_)
           · rw [tk_in hp1E]
             exact hdg.2.symm
           · rw [tk_in hp1E] at h ⊢
             exact dig_v hch.1 hch.2 h)
        | (have hno : ¬ isDg (tk T E (p + 1)) = true := fun h => absurd ((le_nat hSt1.1 hp1).mp c58) (by have := dg_lt h; omega)
           exact h78 _ ⟨fun h => absurd (show (-1 : Int32) < 0 by decide) h.1, fun h => absurd h hno⟩ (fun h => absurd h hno))
  refine V_aload_n dX2_readNumber_0 rfl ?_
  refine V_geti 2 3 dX2_readNumber_1 (Or.inl lkX2_32) rfl (sRd hrd) ⟨by omega, by omega⟩ ?_
  refine V_aload_n dX2_readNumber_4 rfl ?_
  refine V_geti 2 1 dX2_readNumber_5 (Or.inl lkX2_15) rfl (sRd hrd) ⟨by omega, by omega⟩ ?_
  refine V_icmp_ge (tgt := 26) dX2_readNumber_8 (by decide) (fun c8 => ?_) (fun c8 => ?_)
  · refine V_iconst (v := -1) dX2_readNumber_26 rfl ?_
    refine V_istore_n (L' := [_, _, _]) dX2_readNumber_27 (by decide) rfl rfl ?_
    refine V_iload_n dX2_readNumber_28 rfl ?_
    refine V_if_lt (tgt := 38) dX2_readNumber_29 (by decide) (fun c29 => ?_) (fun c29 => ?_)
    · first
        | exact hbad _ (Or.inl c29) (fun h => And.intro hpE rfl)
        | exact hbad _ (Or.inr c35) (fun h => And.intro hpE rfl)
        | exact absurd (show (-1 : Int32) < 0 by decide) c29
        | exact hbad _ (Or.inl c29) (fun h => absurd ((le_nat hSt.1 hpi).mp c8) (by have := dg_lt h; omega))
    · refine V_iload_n dX2_readNumber_32 rfl ?_
      refine V_bipush (v := 9) dX2_readNumber_33 rfl ?_
      refine V_icmp_le (tgt := 40) dX2_readNumber_35 (by decide) (fun c35 => ?_) (fun c35 => ?_)
      · first
          | (have hd : isDg (T p) = true := hdg.2.mpr (And.intro c29 c35)
             have hd2 : isDg (tk T E p) = true := by rw [tk_in hpE]; exact hd
             have e9 := dig_v hch.1 hch.2 hd
             rw [e9, ← tk_in (T := T) hpE]
             exact hgood hd2)
          | exact absurd (show (-1 : Int32) < 0 by decide) c29
      · first
          | exact hbad _ (Or.inl c29) (fun h => And.intro hpE rfl)
          | exact hbad _ (Or.inr c35) (fun h => And.intro hpE rfl)
          | exact absurd (show (-1 : Int32) < 0 by decide) c29
          | exact hbad _ (Or.inl c29) (fun h => absurd ((le_nat hSt.1 hpi).mp c8) (by have := dg_lt h; omega))
  · have hpE : p < E := Nat.not_le.mp (fun h => c8 ((le_nat hSt.1 hpi).mpr h))
    have hch := hT p hpE
    have hdg := dig hch.1 hch.2
    refine V_aload_n dX2_readNumber_11 rfl ?_
    refine V_getr (b := 44) 2 0 dX2_readNumber_12 (Or.inl lkX2_9) rfl (sRd hrd) ⟨by omega, by omega⟩ hrd0 ?_
    refine V_aload_n dX2_readNumber_15 rfl ?_
    refine V_geti 2 3 dX2_readNumber_16 (Or.inl lkX2_32) rfl (sRd hrd) ⟨by omega, by omega⟩ ?_
    refine V_cald (len := 100) p dX2_readNumber_19 rfl ⟨by omega, by omega⟩ hpi (by omega) ?_
    rw [hSt.2.2 p hpE]
    refine V_bipush (v := 48) dX2_readNumber_20 rfl ?_
    refine V_isub dX2_readNumber_22 ?_
    refine V_goto (tgt := 27) dX2_readNumber_23 (by decide) ?_
    refine V_istore_n (L' := [_, _, _]) dX2_readNumber_27 (by decide) rfl rfl ?_
    refine V_iload_n dX2_readNumber_28 rfl ?_
    refine V_if_lt (tgt := 38) dX2_readNumber_29 (by decide) (fun c29 => ?_) (fun c29 => ?_)
    · first
        | exact hbad _ (Or.inl c29) (fun h => And.intro hpE rfl)
        | exact hbad _ (Or.inr c35) (fun h => And.intro hpE rfl)
        | exact absurd (show (-1 : Int32) < 0 by decide) c29
        | exact hbad _ (Or.inl c29) (fun h => absurd ((le_nat hSt.1 hpi).mp c8) (by have := dg_lt h; omega))
    · refine V_iload_n dX2_readNumber_32 rfl ?_
      refine V_bipush (v := 9) dX2_readNumber_33 rfl ?_
      refine V_icmp_le (tgt := 40) dX2_readNumber_35 (by decide) (fun c35 => ?_) (fun c35 => ?_)
      · first
          | (have hd : isDg (T p) = true := hdg.2.mpr (And.intro c29 c35)
             have hd2 : isDg (tk T E p) = true := by rw [tk_in hpE]; exact hd
             have e9 := dig_v hch.1 hch.2 hd
             rw [e9, ← tk_in (T := T) hpE]
             exact hgood hd2)
          | exact absurd (show (-1 : Int32) < 0 by decide) c29
      · first
          | exact hbad _ (Or.inl c29) (fun h => And.intro hpE rfl)
          | exact hbad _ (Or.inr c35) (fun h => And.intro hpE rfl)
          | exact absurd (show (-1 : Int32) < 0 by decide) c29
          | exact hbad _ (Or.inl c29) (fun h => absurd ((le_nat hSt.1 hpi).mp c8) (by have := dg_lt h; omega))
