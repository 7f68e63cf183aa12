/-- the reference reads at p of a tape T of E signs into its village a -/
def MdS (mi : MI) (a : Nat) (T : Nat → Int32) (E p : Nat) : Prop := mi 173 5 = nI a ∧ (mi 173 7).toInt = (E : Int) ∧ mi 173 6 = nI p ∧ ∀ j, j < E → mi 174 (123 + j) = T j
/-- whether it failed, where it stands -/
def setWP (mi : MI) (w : Int32) (q : Nat) : MI := up2 (up2 mi 173 8 w) 173 6 (nI q)
theorem setWP_id {mi : MI} {w : Int32} {q : Nat} (h8 : mi 173 8 = w) (h6 : mi 173 6 = nI q) : setWP mi w q = mi := by
  unfold setWP
  rw [up2_id h8, up2_id h6]
theorem setWP_2 {mi : MI} {w w' : Int32} {q q' : Nat} : setWP (setWP mi w q) w' q' = setWP mi w' q' := by
  unfold setWP
  funext i j
  simp only [up2]
  repeat' split
  all_goals rfl
theorem setWP_8 {mi : MI} {w : Int32} {q : Nat} : setWP mi w q 173 8 = w := by
  unfold setWP
  rw [up2_k (by decide), up2_s]
theorem setWP_6 {mi : MI} {w : Int32} {q : Nat} : setWP mi w q 173 6 = nI q := up2_s
theorem setWP_k {mi : MI} {w : Int32} {q k : Nat} (h : k ≠ 6 ∧ k ≠ 8) : setWP mi w q 173 k = mi 173 k := by
  unfold setWP
  rw [up2_k h.1, up2_k h.2]
theorem setWP_row {mi : MI} {w : Int32} {q b : Nat} (h : b ≠ 173) : setWP mi w q b = mi b := by
  unfold setWP
  rw [up2_row h, up2_row h]
theorem MdS.go {mi : MI} {a : Nat} {T : Nat → Int32} {E p q : Nat} {w : Int32} (h : MdS mi a T E p) : MdS (setWP mi w q) a T E q := by
  refine ⟨?_, ?_, setWP_6, fun j hj => ?_⟩
  · rw [setWP_k (by decide)]
    exact h.1
  · rw [setWP_k (by decide)]
    exact h.2.1
  · rw [setWP_row (by decide)]
    exact h.2.2.2 j hj
theorem MdS.i {mi : MI} {a : Nat} {T : Nat → Int32} {E p : Nat} (h : MdS mi a T E p) (hp : p ≤ E) (hE : E ≤ 100) : (mi 173 6).toInt = (p : Int) := by
  rw [h.2.2.1]
  exact nI_toInt (by omega)
theorem wp_1 {mi : MI} {w : Int32} {q : Nat} : up2 (up2 mi 173 8 w) 173 6 (nI q) = setWP mi w q := rfl
theorem wp_6 {mi : MI} {q : Nat} {w : Int32} (h : mi 173 8 = w) : up2 mi 173 6 (nI q) = setWP mi w q := by
  unfold setWP
  rw [up2_id h]
theorem wp_s {mi : MI} {w : Int32} {q q' : Nat} : up2 (setWP mi w q) 173 6 (nI q') = setWP mi w q' := up2_up
set_option maxRecDepth 4000 in
theorem qX8_here (n : Nat) (mr : MR) (hR : RF mr) (hn : 186 ≤ n) (a : Nat) (ha5 : a < 5) (T : Nat → Int32) (E : Nat) (hE : E ≤ 100) (mi : MI) (p : Nat) (hp : p ≤ E) (hSt : MdS mi a T E p)  : Ct KX8_here 1 0 0 [.ref 173] n mi mr (eqQ (some (.int (tk T E p))) n mi mr) := by
  refine Ct.of2 [some (.ref 173)] (by decide +kernel) (Nat.le_of_ble_eq_true rfl) rfl ?_
  have hpi := hSt.i hp hE
  refine V_aload_n dX8_here_0 rfl ?_
  refine V_geti 8 6 dX8_here_1 (Or.inl lkX8_57) rfl rfl ⟨by omega, by omega⟩ ?_
  refine V_aload_n dX8_here_4 rfl ?_
  refine V_geti 8 7 dX8_here_5 (Or.inl lkX8_60) rfl rfl ⟨by omega, by omega⟩ ?_
  refine V_icmp_ge (tgt := 26) dX8_here_8 (by decide) (fun c8 => ?_) (fun c8 => ?_)
  · refine V_iconst (v := -1) dX8_here_26 rfl ?_
    refine V_iret dX8_here_27 rfl rfl ?_
    first
      | (refine ⟨?_, rfl, rfl, rfl⟩
         rw [tk_in hpE, hSt.2.2.2 p hpE])
      | (refine ⟨?_, rfl, rfl, rfl⟩
         rw [tk_out (fun h => absurd ((le_nat hSt.2.1 hpi).mp c8) (by omega))])
  · have hpE : p < E := Nat.not_le.mp (fun h => c8 ((le_nat hSt.2.1 hpi).mpr h))
    refine V_aload_n dX8_here_11 rfl ?_
    refine V_getr (b := 174) 8 1 dX8_here_12 (Or.inl lkX8_9) rfl rfl ⟨by omega, by omega⟩ (hR _ _ _ rfl) ?_
    refine V_bipush (v := 123) dX8_here_15 rfl ?_
    refine V_aload_n dX8_here_17 rfl ?_
    refine V_geti 8 6 dX8_here_18 (Or.inl lkX8_57) rfl rfl ⟨by omega, by omega⟩ ?_
    refine V_iadd dX8_here_21 ?_
    refine V_iald (len := 938) (123 + p) dX8_here_22 rfl ⟨by omega, by omega⟩ (ix_add (a := 123) rfl hpi (by omega)) (by omega) ?_
    refine V_goto (tgt := 27) dX8_here_23 (by decide) ?_
    refine V_iret dX8_here_27 rfl rfl ?_
    first
      | (refine ⟨?_, rfl, rfl, rfl⟩
         rw [tk_in hpE, hSt.2.2.2 p hpE])
      | (refine ⟨?_, rfl, rfl, rfl⟩
         rw [tk_out (fun h => absurd ((le_nat hSt.2.1 hpi).mp c8) (by omega))])
set_option maxRecDepth 4000 in
theorem qX8_must (n : Nat) (mr : MR) (hR : RF mr) (hn : 186 ≤ n) (a : Nat) (ha5 : a < 5) (T : Nat → Int32) (E : Nat) (hE : E ≤ 100) (mi : MI) (p : Nat) (hp : p ≤ E) (hSt : MdS mi a T E p) (h8 : mi 173 8 = 0) (x : Int32)  : Ct KX8_must 2 0 0 [.ref 173, .int x] n mi mr (eqQ none n (setWP mi (b01 (¬ tk T E p = x)) (if tk T E p = x then p + 1 else p)) mr) := by
  refine Ct.of2 [some (.ref 173), some (.int x)] (by decide +kernel) (Nat.le_of_ble_eq_true rfl) rfl ?_
  refine V_aload_n dX8_must_0 rfl ?_
  refine V_aload_n dX8_must_1 rfl ?_
  refine V_geti 8 8 dX8_must_2 (Or.inl lkX8_63) rfl rfl ⟨by omega, by omega⟩ ?_
  refine V_if_ne (tgt := 16) dX8_must_5 (by decide) (fun c5 => absurd h8 c5) (fun c5 => ?_)
  refine V_aload_n dX8_must_8 rfl ?_
  refine V_callV (ci := 8) (qX8_here n mr hR hn a ha5 T E hE mi p hp hSt) dX8_must_9 mlX8_67 mtX8_here ivX8_here rfl rfl ⟨by omega, by omega⟩ (by decide) rfl rfl (by decide) (Nat.le_of_ble_eq_true rfl) rfl rfl ?_
  rintro _ _ _ _ ⟨rfl, rfl, rfl, rfl⟩
  refine V_iload_n dX8_must_12 rfl ?_
  refine V_icmp_eq (tgt := 20) dX8_must_13 (by decide) (fun c13 => ?_) (fun c13 => ?_)
  · refine V_iconst (v := 0) dX8_must_20 rfl ?_
    refine V_puti 8 8 dX8_must_21 (Or.inl lkX8_63) rfl rfl rfl rfl ⟨by omega, by omega⟩ ?_
    refine V_aload_n dX8_must_24 rfl ?_
    refine V_dup dX8_must_25 rfl ?_
    refine V_geti 8 6 dX8_must_26 (Or.inl lkX8_57) rfl rfl ⟨by omega, by omega⟩ ?_
    rw [up2_k (by decide), hSt.2.2.1]
    refine V_aload_n dX8_must_29 rfl ?_
    refine V_geti 8 8 dX8_must_30 (Or.inl lkX8_63) rfl rfl ⟨by omega, by omega⟩ ?_
    rw [up2_s]
    refine V_if_eq (tgt := 40) dX8_must_33 (by decide) (fun c33 => ?_) (fun c33 => ?_)
    · refine V_iconst (v := 1) dX8_must_40 rfl ?_
      refine V_iadd dX8_must_41 ?_
      
      refine V_puti 8 6 dX8_must_42 (Or.inl lkX8_57) rfl rfl rfl rfl ⟨by omega, by omega⟩ ?_
      refine V_ret dX8_must_45 rfl ?_
      first
        | (rw [if_pos c13, b01_f (fun h => h c13)]
           first
             | exact absurd rfl c33
             | exact ⟨rfl, rfl, by rw [nI_p1]; rfl, rfl⟩)
        | (rw [if_neg c13, b01_t (c := ¬ tk T E p = x) c13]
           first
             | exact absurd c33 (by decide)
             | exact ⟨rfl, rfl, by rw [Int32.add_zero]; rfl, rfl⟩)
    · refine V_iconst (v := 0) dX8_must_36 rfl ?_
      refine V_goto (tgt := 41) dX8_must_37 (by decide) ?_
      refine V_iadd dX8_must_41 ?_
      
      refine V_puti 8 6 dX8_must_42 (Or.inl lkX8_57) rfl rfl rfl rfl ⟨by omega, by omega⟩ ?_
      refine V_ret dX8_must_45 rfl ?_
      first
        | (rw [if_pos c13, b01_f (fun h => h c13)]
           first
             | exact absurd rfl c33
             | exact ⟨rfl, rfl, by rw [nI_p1]; rfl, rfl⟩)
        | (rw [if_neg c13, b01_t (c := ¬ tk T E p = x) c13]
           first
             | exact absurd c33 (by decide)
             | exact ⟨rfl, rfl, by rw [Int32.add_zero]; rfl, rfl⟩)
  · refine V_iconst (v := 1) dX8_must_16 rfl ?_
    refine V_goto (tgt := 21) dX8_must_17 (by decide) ?_
    refine V_puti 8 8 dX8_must_21 (Or.inl lkX8_63) rfl rfl rfl rfl ⟨by omega, by omega⟩ ?_
    refine V_aload_n dX8_must_24 rfl ?_
    refine V_dup dX8_must_25 rfl ?_
    refine V_geti 8 6 dX8_must_26 (Or.inl lkX8_57) rfl rfl ⟨by omega, by omega⟩ ?_
    rw [up2_k (by decide), hSt.2.2.1]
    refine V_aload_n dX8_must_29 rfl ?_
    refine V_geti 8 8 dX8_must_30 (Or.inl lkX8_63) rfl rfl ⟨by omega, by omega⟩ ?_
    rw [up2_s]
    refine V_if_eq (tgt := 40) dX8_must_33 (by decide) (fun c33 => ?_) (fun c33 => ?_)
    · refine V_iconst (v := 1) dX8_must_40 rfl ?_
      refine V_iadd dX8_must_41 ?_
      
      refine V_puti 8 6 dX8_must_42 (Or.inl lkX8_57) rfl rfl rfl rfl ⟨by omega, by omega⟩ ?_
      refine V_ret dX8_must_45 rfl ?_
      first
        | (rw [if_pos c13, b01_f (fun h => h c13)]
           first
             | exact absurd rfl c33
             | exact ⟨rfl, rfl, by rw [nI_p1]; rfl, rfl⟩)
        | (rw [if_neg c13, b01_t (c := ¬ tk T E p = x) c13]
           first
             | exact absurd c33 (by decide)
             | exact ⟨rfl, rfl, by rw [Int32.add_zero]; rfl, rfl⟩)
    · refine V_iconst (v := 0) dX8_must_36 rfl ?_
      refine V_goto (tgt := 41) dX8_must_37 (by decide) ?_
      refine V_iadd dX8_must_41 ?_
      
      refine V_puti 8 6 dX8_must_42 (Or.inl lkX8_57) rfl rfl rfl rfl ⟨by omega, by omega⟩ ?_
      refine V_ret dX8_must_45 rfl ?_
      first
        | (rw [if_pos c13, b01_f (fun h => h c13)]
           first
             | exact absurd rfl c33
             | exact ⟨rfl, rfl, by rw [nI_p1]; rfl, rfl⟩)
        | (rw [if_neg c13, b01_t (c := ¬ tk T E p = x) c13]
           first
             | exact absurd c33 (by decide)
             | exact ⟨rfl, rfl, by rw [Int32.add_zero]; rfl, rfl⟩)
set_option maxRecDepth 4000 in
theorem qX8_mustW (n : Nat) (mr : MR) (hR : RF mr) (hn : 186 ≤ n) (a : Nat) (ha5 : a < 5) (T : Nat → Int32) (E : Nat) (hE : E ≤ 100) (mi : MI) (p : Nat) (hp : p ≤ E) (hSt : MdS mi a T E p) (h8 : mi 173 8 = 1) (x : Int32)  : Ct KX8_must 2 0 0 [.ref 173, .int x] n mi mr (eqQ none n mi mr) := by
  refine Ct.of2 [some (.ref 173), some (.int x)] (by decide +kernel) (Nat.le_of_ble_eq_true rfl) rfl ?_
  refine V_aload_n dX8_must_0 rfl ?_
  refine V_aload_n dX8_must_1 rfl ?_
  refine V_geti 8 8 dX8_must_2 (Or.inl lkX8_63) rfl rfl ⟨by omega, by omega⟩ ?_
  refine V_if_ne (tgt := 16) dX8_must_5 (by decide) (fun c5 => ?_) (fun c5 => absurd (h8.symm.trans c5) (by decide))
  refine V_iconst (v := 1) dX8_must_16 rfl ?_
  refine V_goto (tgt := 21) dX8_must_17 (by decide) ?_
  refine V_puti 8 8 dX8_must_21 (Or.inl lkX8_63) rfl rfl rfl rfl ⟨by omega, by omega⟩ ?_
  refine V_aload_n dX8_must_24 rfl ?_
  refine V_dup dX8_must_25 rfl ?_
  refine V_geti 8 6 dX8_must_26 (Or.inl lkX8_57) rfl rfl ⟨by omega, by omega⟩ ?_
  refine V_aload_n dX8_must_29 rfl ?_
  refine V_geti 8 8 dX8_must_30 (Or.inl lkX8_63) rfl rfl ⟨by omega, by omega⟩ ?_
  rw [up2_s]
  refine V_if_eq (tgt := 40) dX8_must_33 (by decide) (fun c33 => absurd c33 (by decide)) (fun c33 => ?_)
  refine V_iconst (v := 0) dX8_must_36 rfl ?_
  refine V_goto (tgt := 41) dX8_must_37 (by decide) ?_
  refine V_iadd dX8_must_41 ?_
  refine V_puti 8 6 dX8_must_42 (Or.inl lkX8_57) rfl rfl rfl rfl ⟨by omega, by omega⟩ ?_
  refine V_ret dX8_must_45 rfl ?_
  refine ⟨rfl, rfl, ?_, rfl⟩
  rw [Int32.add_zero, up2_k (by decide)]
  exact ((up2_id (by rw [up2_k (by decide)])).trans (up2_id h8)).symm
set_option maxRecDepth 4000 in
theorem qX8_spells (n : Nat) (mr : MR) (hR : RF mr) (hn : 186 ≤ n) (a : Nat) (ha5 : a < 5) (T : Nat → Int32) (E : Nat) (hE : E ≤ 100) (mi : MI) (p : Nat) (hp : p ≤ E) (hSt : MdS mi a T E p) (h8 : mi 173 8 = 0) (k : Nat) (hk : k < 8) : Ct KX8_spells 5 0 0 [.ref 173, .ref (4 + k)] n mi mr (eqQ none n (setWP mi (b01 (¬ (pLit T E (xB k) (xL k) 0 p).2 = true)) ((pLit T E (xB k) (xL k) 0 p).1)) mr) := by
  refine Ct.of2 [some (.ref 173), some (.ref (4 + k)), none] (by decide +kernel) (Nat.le_of_ble_eq_true rfl) rfl ?_
  obtain ⟨-, hl1, hl6, -⟩ := xL_dec ⟨k, hk⟩
  have hl1 : (nI (xL k)).toInt = (xL k : Int) := hl1
  have hl6 : xL k ≤ 6 := hl6
  have bad : ∀ (m i q : Nat) (u : Int32), i + m = xL k → u.toInt = (i : Int) → q ≤ E → q = (pLit T E (xB k) (xL k) 0 p).1 → ¬ (pLit T E (xB k) (xL k) 0 p).2 = true → V KX8_spells 5 0 0 (eqQ none n (setWP mi (b01 (¬ (pLit T E (xB k) (xL k) 0 p).2 = true)) ((pLit T E (xB k) (xL k) 0 p).1)) mr) 2 [some (.ref 173), some (.ref (4 + k)), some (.int u)] [] n (setWP mi (1) (q)) mr := by
    intro m
    induction m with
    | zero =>
      intro i q u him hu hq hq2 hf
      refine V_iload_n dX8_spells_2 rfl ?_
      refine V_aload_n dX8_spells_3 rfl ?_
      refine V_callVs (k := k) (qJ0_length n _ mr k hk) dX8_spells_4 mlX8_71 mtJ0_length_8abf5 ivJ0_length_8abf5 rfl hk rfl rfl (by decide) (Nat.le_of_ble_eq_true rfl) rfl rfl ?_
      rintro _ _ _ _ ⟨rfl, rfl, rfl, rfl⟩
      refine V_icmp_ge (tgt := 25) dX8_spells_7 (by decide) (fun c7 => ?_) (fun c7 => absurd ((le_nat hl1 hu).mpr (by omega)) c7)
      refine V_ret dX8_spells_25 rfl ?_
      rw [hq2, b01_t hf]
      exact ⟨rfl, rfl, rfl, rfl⟩
    | succ m ih =>
      intro i q u him hu hq hq2 hf
      refine V_iload_n dX8_spells_2 rfl ?_
      refine V_aload_n dX8_spells_3 rfl ?_
      refine V_callVs (k := k) (qJ0_length n _ mr k hk) dX8_spells_4 mlX8_71 mtJ0_length_8abf5 ivJ0_length_8abf5 rfl hk rfl rfl (by decide) (Nat.le_of_ble_eq_true rfl) rfl rfl ?_
      rintro _ _ _ _ ⟨rfl, rfl, rfl, rfl⟩
      refine V_icmp_ge (tgt := 25) dX8_spells_7 (by decide) (fun c7 => absurd ((le_nat hl1 hu).mp c7) (by omega)) (fun c7 => ?_)
      refine V_aload_n dX8_spells_10 rfl ?_
      refine V_aload_n dX8_spells_11 rfl ?_
      refine V_iload_n dX8_spells_12 rfl ?_
      refine V_callVs (k := k) (qJ0_charAt n _ mr k hk _ i hu (by omega)) dX8_spells_13 mlX8_76 mtJ0_charAt_5068e ivJ0_charAt_5068e rfl hk rfl rfl (by decide) (Nat.le_of_ble_eq_true rfl) rfl rfl ?_
      rintro _ _ _ _ ⟨rfl, rfl, rfl, rfl⟩
      refine V_callV (ci := 8) (qX8_mustW n mr hR hn a ha5 T E hE _ q hq hSt.go setWP_8 _) dX8_spells_16 mlX8_80 mtX8_must ivX8_must rfl rfl ⟨by omega, by omega⟩ (by decide) rfl rfl (by decide) (Nat.le_of_ble_eq_true rfl) rfl rfl ?_
      rintro _ _ _ _ ⟨rfl, rfl, rfl, rfl⟩
      refine V_iinc (v := _ + (1)) (L' := [_, _, _]) dX8_spells_19 (by decide) rfl rfl rfl rfl ?_
      refine V_goto (tgt := 2) dX8_spells_22 (by decide) ?_
      exact ih (i + 1) q _ (by omega) (ix_add hu (by decide) (by omega)) hq hq2 hf
  have loop : ∀ (m i q : Nat) (u : Int32), i + m = xL k → u.toInt = (i : Int) → q ≤ E → pLit T E (xB k) m i q = (pLit T E (xB k) (xL k) 0 p) → V KX8_spells 5 0 0 (eqQ none n (setWP mi (b01 (¬ (pLit T E (xB k) (xL k) 0 p).2 = true)) ((pLit T E (xB k) (xL k) 0 p).1)) mr) 2 [some (.ref 173), some (.ref (4 + k)), some (.int u)] [] n (setWP mi (0) (q)) mr := by
    intro m
    induction m with
    | zero =>
      intro i q u him hu hq hl
      have hl0 : (pLit T E (xB k) (xL k) 0 p) = (q, true) := hl.symm
      refine V_iload_n dX8_spells_2 rfl ?_
      refine V_aload_n dX8_spells_3 rfl ?_
      refine V_callVs (k := k) (qJ0_length n _ mr k hk) dX8_spells_4 mlX8_71 mtJ0_length_8abf5 ivJ0_length_8abf5 rfl hk rfl rfl (by decide) (Nat.le_of_ble_eq_true rfl) rfl rfl ?_
      rintro _ _ _ _ ⟨rfl, rfl, rfl, rfl⟩
      refine V_icmp_ge (tgt := 25) dX8_spells_7 (by decide) (fun c7 => ?_) (fun c7 => absurd ((le_nat hl1 hu).mpr (by omega)) c7)
      refine V_ret dX8_spells_25 rfl ?_
      rw [hl0, b01_f (fun h => h rfl)]
      exact ⟨rfl, rfl, rfl, rfl⟩
    | succ m ih =>
      intro i q u him hu hq hl
      have hne := xB_ne ⟨k, hk⟩ ⟨i, by omega⟩ (by show i < xL k; omega)
      have hne : xB k i ≠ -1 := hne
      have e1 : pLit T E (xB k) (m + 1) i q = if tk T E q = xB k i then pLit T E (xB k) m (i + 1) (q + 1) else (q, false) := rfl
      refine V_iload_n dX8_spells_2 rfl ?_
      refine V_aload_n dX8_spells_3 rfl ?_
      refine V_callVs (k := k) (qJ0_length n _ mr k hk) dX8_spells_4 mlX8_71 mtJ0_length_8abf5 ivJ0_length_8abf5 rfl hk rfl rfl (by decide) (Nat.le_of_ble_eq_true rfl) rfl rfl ?_
      rintro _ _ _ _ ⟨rfl, rfl, rfl, rfl⟩
      refine V_icmp_ge (tgt := 25) dX8_spells_7 (by decide) (fun c7 => absurd ((le_nat hl1 hu).mp c7) (by omega)) (fun c7 => ?_)
      refine V_aload_n dX8_spells_10 rfl ?_
      refine V_aload_n dX8_spells_11 rfl ?_
      refine V_iload_n dX8_spells_12 rfl ?_
      refine V_callVs (k := k) (qJ0_charAt n _ mr k hk _ i hu (by omega)) dX8_spells_13 mlX8_76 mtJ0_charAt_5068e ivJ0_charAt_5068e rfl hk rfl rfl (by decide) (Nat.le_of_ble_eq_true rfl) rfl rfl ?_
      rintro _ _ _ _ ⟨rfl, rfl, rfl, rfl⟩
      refine V_callV (ci := 8) (qX8_must n mr hR hn a ha5 T E hE _ q hq hSt.go setWP_8 _) dX8_spells_16 mlX8_80 mtX8_must ivX8_must rfl rfl ⟨by omega, by omega⟩ (by decide) rfl rfl (by decide) (Nat.le_of_ble_eq_true rfl) rfl rfl ?_
      rintro _ _ _ _ ⟨rfl, rfl, rfl, rfl⟩
      refine V_iinc (v := _ + (1)) (L' := [_, _, _]) dX8_spells_19 (by decide) rfl rfl rfl rfl ?_
      refine V_goto (tgt := 2) dX8_spells_22 (by decide) ?_
      rw [setWP_2]
      by_cases e : tk T E q = xB k i
      · have hqE := tk_is e hne
        rw [if_pos e] at e1
        rw [if_pos e, b01_f (c := ¬ tk T E q = xB k i) (fun h => h e)]
        exact ih (i + 1) (q + 1) _ (by omega) (ix_add hu (by decide) (by omega)) (by omega) (e1.symm.trans hl)
      · rw [if_neg e] at e1
        rw [if_neg e, b01_t (c := ¬ tk T E q = xB k i) e]
        have hl9 := e1.symm.trans hl
        exact bad m (i + 1) q _ (by omega) (ix_add hu (by decide) (by omega)) hq (by rw [← hl9]) (by rw [← hl9]; exact fun h => Bool.noConfusion h)
  refine V_iconst (v := 0) dX8_spells_0 rfl ?_
  refine V_istore_n (L' := [_, _, _]) dX8_spells_1 (by decide) rfl rfl ?_
  have h0 := loop (xL k) 0 p 0 (Nat.zero_add _) rfl hp rfl
  rw [setWP_id h8 hSt.2.2.1] at h0
  exact h0
set_option maxRecDepth 4000 in
theorem qX8_spellsW (n : Nat) (mr : MR) (hR : RF mr) (hn : 186 ≤ n) (a : Nat) (ha5 : a < 5) (T : Nat → Int32) (E : Nat) (hE : E ≤ 100) (mi : MI) (p : Nat) (hp : p ≤ E) (hSt : MdS mi a T E p) (h8 : mi 173 8 = 1) (k : Nat) (hk : k < 8) : Ct KX8_spells 5 0 0 [.ref 173, .ref (4 + k)] n mi mr (eqQ none n mi mr) := by
  refine Ct.of2 [some (.ref 173), some (.ref (4 + k)), none] (by decide +kernel) (Nat.le_of_ble_eq_true rfl) rfl ?_
  obtain ⟨-, hl1, hl6, -⟩ := xL_dec ⟨k, hk⟩
  have hl1 : (nI (xL k)).toInt = (xL k : Int) := hl1
  have hl6 : xL k ≤ 6 := hl6
  have bad : ∀ (m i q : Nat) (u : Int32), i + m = xL k → u.toInt = (i : Int) → q ≤ E → q = p → V KX8_spells 5 0 0 (eqQ none n mi mr) 2 [some (.ref 173), some (.ref (4 + k)), some (.int u)] [] n (setWP mi (1) (q)) mr := by
    intro m
    induction m with
    | zero =>
      intro i q u him hu hq hq2
      refine V_iload_n dX8_spells_2 rfl ?_
      refine V_aload_n dX8_spells_3 rfl ?_
      refine V_callVs (k := k) (qJ0_length n _ mr k hk) dX8_spells_4 mlX8_71 mtJ0_length_8abf5 ivJ0_length_8abf5 rfl hk rfl rfl (by decide) (Nat.le_of_ble_eq_true rfl) rfl rfl ?_
      rintro _ _ _ _ ⟨rfl, rfl, rfl, rfl⟩
      refine V_icmp_ge (tgt := 25) dX8_spells_7 (by decide) (fun c7 => ?_) (fun c7 => absurd ((le_nat hl1 hu).mpr (by omega)) c7)
      refine V_ret dX8_spells_25 rfl ?_
      rw [hq2, setWP_id h8 hSt.2.2.1]
      exact ⟨rfl, rfl, rfl, rfl⟩
    | succ m ih =>
      intro i q u him hu hq hq2
      refine V_iload_n dX8_spells_2 rfl ?_
      refine V_aload_n dX8_spells_3 rfl ?_
      refine V_callVs (k := k) (qJ0_length n _ mr k hk) dX8_spells_4 mlX8_71 mtJ0_length_8abf5 ivJ0_length_8abf5 rfl hk rfl rfl (by decide) (Nat.le_of_ble_eq_true rfl) rfl rfl ?_
      rintro _ _ _ _ ⟨rfl, rfl, rfl, rfl⟩
      refine V_icmp_ge (tgt := 25) dX8_spells_7 (by decide) (fun c7 => absurd ((le_nat hl1 hu).mp c7) (by omega)) (fun c7 => ?_)
      refine V_aload_n dX8_spells_10 rfl ?_
      refine V_aload_n dX8_spells_11 rfl ?_
      refine V_iload_n dX8_spells_12 rfl ?_
      refine V_callVs (k := k) (qJ0_charAt n _ mr k hk _ i hu (by omega)) dX8_spells_13 mlX8_76 mtJ0_charAt_5068e ivJ0_charAt_5068e rfl hk rfl rfl (by decide) (Nat.le_of_ble_eq_true rfl) rfl rfl ?_
      rintro _ _ _ _ ⟨rfl, rfl, rfl, rfl⟩
      refine V_callV (ci := 8) (qX8_mustW n mr hR hn a ha5 T E hE _ q hq hSt.go setWP_8 _) dX8_spells_16 mlX8_80 mtX8_must ivX8_must rfl rfl ⟨by omega, by omega⟩ (by decide) rfl rfl (by decide) (Nat.le_of_ble_eq_true rfl) rfl rfl ?_
      rintro _ _ _ _ ⟨rfl, rfl, rfl, rfl⟩
      refine V_iinc (v := _ + (1)) (L' := [_, _, _]) dX8_spells_19 (by decide) rfl rfl rfl rfl ?_
      refine V_goto (tgt := 2) dX8_spells_22 (by decide) ?_
      exact ih (i + 1) q _ (by omega) (ix_add hu (by decide) (by omega)) hq hq2
  refine V_iconst (v := 0) dX8_spells_0 rfl ?_
  refine V_istore_n (L' := [_, _, _]) dX8_spells_1 (by decide) rfl rfl ?_
  have h0 := bad (xL k) 0 p 0 (Nat.zero_add _) rfl hp rfl
  rw [setWP_id h8 hSt.2.2.1] at h0
  exact h0
set_option maxRecDepth 4000 in
theorem qX8_among (n : Nat) (mr : MR) (hR : RF mr) (hn : 186 ≤ n) (a : Nat) (ha5 : a < 5) (T : Nat → Int32) (E : Nat) (hE : E ≤ 100) (mi : MI) (p : Nat) (hp : p ≤ E) (hSt : MdS mi a T E p) (h8 : mi 173 8 = 0) (k : Nat) (hk : k < 8) : Ct KX8_among 5 0 0 [.ref 173, .ref (4 + k)] n mi mr (eqQ (some (.int (fndV (fnd (xB k) (tk T E p) (xL k) 0)))) n (setWP mi (0) (if fnd (xB k) (tk T E p) (xL k) 0 = none then p else p + 1)) mr) := by
  refine Ct.of2 [some (.ref 173), some (.ref (4 + k)), none] (by decide +kernel) (Nat.le_of_ble_eq_true rfl) rfl ?_
  obtain ⟨-, hl1, hl6, -⟩ := xL_dec ⟨k, hk⟩
  have hl1 : (nI (xL k)).toInt = (xL k : Int) := hl1
  have hl6 : xL k ≤ 6 := hl6
  have loop : ∀ (m i : Nat) (u : Int32), i + m = xL k → u.toInt = (i : Int) → fnd (xB k) (tk T E p) m i = fnd (xB k) (tk T E p) (xL k) 0 → V KX8_among 5 0 0 (eqQ (some (.int (fndV (fnd (xB k) (tk T E p) (xL k) 0)))) n (setWP mi (0) (if fnd (xB k) (tk T E p) (xL k) 0 = none then p else p + 1)) mr) 2 [some (.ref 173), some (.ref (4 + k)), some (.int u)] [] n mi mr := by
    intro m
    induction m with
    | zero =>
      intro i u him hu hf
      have hf0 : fnd (xB k) (tk T E p) (xL k) 0 = none := hf.symm
      refine V_iload_n dX8_among_2 rfl ?_
      refine V_aload_n dX8_among_3 rfl ?_
      refine V_callVs (k := k) (qJ0_length n _ mr k hk) dX8_among_4 mlX8_71 mtJ0_length_8abf5 ivJ0_length_8abf5 rfl hk rfl rfl (by decide) (Nat.le_of_ble_eq_true rfl) rfl rfl ?_
      rintro _ _ _ _ ⟨rfl, rfl, rfl, rfl⟩
      refine V_icmp_ge (tgt := 40) dX8_among_7 (by decide) (fun c7 => ?_) (fun c7 => absurd ((le_nat hl1 hu).mpr (by omega)) c7)
      refine V_iconst (v := -1) dX8_among_40 rfl ?_
      refine V_iret dX8_among_41 rfl rfl ?_
      rw [hf0, if_pos rfl, setWP_id h8 hSt.2.2.1]
      exact ⟨rfl, rfl, rfl, rfl⟩
    | succ m ih =>
      intro i u him hu hf
      have e1 : fnd (xB k) (tk T E p) (m + 1) i = if xB k i = tk T E p then some i else fnd (xB k) (tk T E p) m (i + 1) := rfl
      refine V_iload_n dX8_among_2 rfl ?_
      refine V_aload_n dX8_among_3 rfl ?_
      refine V_callVs (k := k) (qJ0_length n _ mr k hk) dX8_among_4 mlX8_71 mtJ0_length_8abf5 ivJ0_length_8abf5 rfl hk rfl rfl (by decide) (Nat.le_of_ble_eq_true rfl) rfl rfl ?_
      rintro _ _ _ _ ⟨rfl, rfl, rfl, rfl⟩
      refine V_icmp_ge (tgt := 40) dX8_among_7 (by decide) (fun c7 => absurd ((le_nat hl1 hu).mp c7) (by omega)) (fun c7 => ?_)
      refine V_aload_n dX8_among_10 rfl ?_
      refine V_callV (ci := 8) (qX8_here n mr hR hn a ha5 T E hE mi p hp hSt) dX8_among_11 mlX8_67 mtX8_here ivX8_here rfl rfl ⟨by omega, by omega⟩ (by decide) rfl rfl (by decide) (Nat.le_of_ble_eq_true rfl) rfl rfl ?_
      rintro _ _ _ _ ⟨rfl, rfl, rfl, rfl⟩
      refine V_aload_n dX8_among_14 rfl ?_
      refine V_iload_n dX8_among_15 rfl ?_
      refine V_callVs (k := k) (qJ0_charAt n _ mr k hk _ i hu (by omega)) dX8_among_16 mlX8_76 mtJ0_charAt_5068e ivJ0_charAt_5068e rfl hk rfl rfl (by decide) (Nat.le_of_ble_eq_true rfl) rfl rfl ?_
      rintro _ _ _ _ ⟨rfl, rfl, rfl, rfl⟩
      refine V_icmp_ne (tgt := 34) dX8_among_19 (by decide) (fun c19 => ?_) (fun c19 => ?_)
      · refine V_iinc (v := _ + (1)) (L' := [_, _, _]) dX8_among_34 (by decide) rfl rfl rfl rfl ?_
        refine V_goto (tgt := 2) dX8_among_37 (by decide) ?_
        rw [if_neg (fun h => c19 (Eq.symm h)), hf] at e1
        exact ih (i + 1) _ (by omega) (ix_add hu (by decide) (by omega)) e1.symm
      · refine V_aload_n dX8_among_22 rfl ?_
        refine V_dup dX8_among_23 rfl ?_
        refine V_geti 8 6 dX8_among_24 (Or.inl lkX8_57) rfl rfl ⟨by omega, by omega⟩ ?_
        refine V_iconst (v := 1) dX8_among_27 rfl ?_
        refine V_iadd dX8_among_28 ?_
        rw [hSt.2.2.1, nI_p1]
        refine V_puti 8 6 dX8_among_29 (Or.inl lkX8_57) rfl rfl rfl rfl ⟨by omega, by omega⟩ ?_
        rw [wp_6 h8]
        refine V_iload_n dX8_among_32 rfl ?_
        refine V_iret dX8_among_33 rfl rfl ?_
        rw [if_pos (show xB k i = tk T E p from Eq.symm c19), hf] at e1
        rw [e1, if_neg (fun h => by cases h)]
        exact ⟨congrArg (fun z => some (Value.int z)) (nI_of_toInt hu).symm, rfl, rfl, rfl⟩
  refine V_iconst (v := 0) dX8_among_0 rfl ?_
  refine V_istore_n (L' := [_, _, _]) dX8_among_1 (by decide) rfl rfl ?_
  exact loop (xL k) 0 0 (Nat.zero_add _) rfl rfl
def figV (o : Option Nat) : Int32 := match o with
  | none => 0
  | some v => nI v
theorem dg_in {x : Int32} : (48 ≤ x ∧ x ≤ 57) ↔ isDg x = true := by
  unfold isDg
  rw [decide_eq_true_iff]
set_option maxRecDepth 4000 in
theorem qX8_figures (n : Nat) (mr : MR) (hR : RF mr) (hn : 186 ≤ n) (a : Nat) (ha5 : a < 5) (T : Nat → Int32) (E : Nat) (hE : E ≤ 100) (mi : MI) (p : Nat) (hp : p ≤ E) (hSt : MdS mi a T E p) (h8 : mi 173 8 = 0) : Ct KX8_figures 2 0 0 [.ref 173] n mi mr (eqQ (some (.int (figV (pNum T E p).2))) n (setWP mi (b01 ((pNum T E p).2 = none)) ((pNum T E p).1)) mr) := by
  refine Ct.of2 [some (.ref 173), none, none] (by decide +kernel) (Nat.le_of_ble_eq_true rfl) rfl ?_
  have hun : pNum T E p = if isDg (tk T E p) = true then (if dgV (tk T E p) ≠ 0 ∧ isDg (tk T E (p + 1)) = true then (p + 2, some (10 * dgV (tk T E p) + dgV (tk T E (p + 1)))) else (p + 1, some (dgV (tk T E p)))) else (p, none) := rfl
  have hbad : ¬ isDg (tk T E p) = true → V KX8_figures 2 0 0 (eqQ (some (.int (figV (pNum T E p).2))) n (setWP mi (b01 ((pNum T E p).2 = none)) ((pNum T E p).1)) mr) 30 [some (.ref 173), none, none] [] n (setWP mi (1) (p)) mr := by
    intro hd
    rw [if_neg hd] at hun
    refine V_iconst (v := 0) dX8_figures_30 rfl ?_
    refine V_istore_n (L' := [_, _, _]) dX8_figures_31 (by decide) rfl rfl ?_
    refine V_iconst (v := 0) dX8_figures_32 rfl ?_
    refine V_istore_n (L' := [_, _, _]) dX8_figures_33 (by decide) rfl rfl ?_
    refine V_iload_n dX8_figures_34 rfl ?_
    refine V_iconst (v := 2) dX8_figures_35 rfl ?_
    refine V_icmp_ge (tgt := 97) dX8_figures_36 (by decide) (fun c36 => absurd c36 (by decide)) (fun c36 => ?_)
    refine V_aload_n dX8_figures_39 rfl ?_
    refine V_geti 8 8 dX8_figures_40 (Or.inl lkX8_63) rfl rfl ⟨by omega, by omega⟩ ?_
    rw [setWP_8]
    refine V_if_ne (tgt := 97) dX8_figures_43 (by decide) (fun c43 => ?_) (fun c43 => absurd c43 (by decide))
    refine V_iload_n dX8_figures_97 rfl ?_
    refine V_iret dX8_figures_98 rfl rfl ?_
    rw [hun, b01_t rfl]
    exact ⟨rfl, rfl, rfl, rfl⟩
  have hgood : isDg (tk T E p) = true → V KX8_figures 2 0 0 (eqQ (some (.int (figV (pNum T E p).2))) n (setWP mi (b01 ((pNum T E p).2 = none)) ((pNum T E p).1)) mr) 30 [some (.ref 173), none, none] [] n (setWP mi (0) (p)) mr := by
    intro hd
    have hpE := dg_lt hd
    have hdv := dg_v hd
    rw [if_pos hd] at hun
    have hval : 10 * (0 : Int32) + tk T E p - 48 = nI (dgV (tk T E p)) := by
      refine nI_of_toInt ?_
      rw [show 10 * (0 : Int32) + tk T E p = tk T E p by rw [Int32.mul_zero, Int32.zero_add], i_sub rfl (b := 48) (by decide) (by omega)]
      omega
    have hone : ¬ (dgV (tk T E p) ≠ 0 ∧ isDg (tk T E (p + 1)) = true) → V KX8_figures 2 0 0 (eqQ (some (.int (figV (pNum T E p).2))) n (setWP mi (b01 ((pNum T E p).2 = none)) ((pNum T E p).1)) mr) 97 [some (.ref 173), some (.int (nI (dgV (tk T E p)))), some (.int 1)] [] n (setWP mi (0) (p + 1)) mr := by
      intro h
      rw [if_neg h] at hun
      refine V_iload_n dX8_figures_97 rfl ?_
      refine V_iret dX8_figures_98 rfl rfl ?_
      rw [hun, b01_f (fun h => by cases h)]
      exact ⟨rfl, rfl, rfl, rfl⟩
    have hsec : V KX8_figures 2 0 0 (eqQ (some (.int (figV (pNum T E p).2))) n (setWP mi (b01 ((pNum T E p).2 = none)) ((pNum T E p).1)) mr) 34 [some (.ref 173), some (.int (nI (dgV (tk T E p)))), some (.int 1)] [] n (setWP mi (0) (p + 1)) mr := by
      have hSt1 := hSt.go (w := 0) (q := p + 1)
      have h3 : ∀ v : Int32, v = nI (10 * dgV (tk T E p) + dgV (tk T E (p + 1))) → pNum T E p = (p + 2, some (10 * dgV (tk T E p) + dgV (tk T E (p + 1)))) → V KX8_figures 2 0 0 (eqQ (some (.int (figV (pNum T E p).2))) n (setWP mi (b01 ((pNum T E p).2 = none)) ((pNum T E p).1)) mr) 34 [some (.ref 173), some (.int v), some (.int (1 + 1))] [] n (setWP mi (0) (p + 1 + 1)) mr := by
        intro v hv hun
        refine V_iload_n dX8_figures_34 rfl ?_
        refine V_iconst (v := 2) dX8_figures_35 rfl ?_
        refine V_icmp_ge (tgt := 97) dX8_figures_36 (by decide) (fun c36 => ?_) (fun c36 => absurd (show (2 : Int32) ≤ 1 + 1 by decide) c36)
        refine V_iload_n dX8_figures_97 rfl ?_
        refine V_iret dX8_figures_98 rfl rfl ?_
        rw [hun, hv, b01_f (fun h => by cases h)]
        exact ⟨rfl, rfl, rfl, rfl⟩
      refine V_iload_n dX8_figures_34 rfl ?_
      refine V_iconst (v := 2) dX8_figures_35 rfl ?_
      refine V_icmp_ge (tgt := 97) dX8_figures_36 (by decide) (fun c36 => absurd c36 (by decide)) (fun c36 => ?_)
      refine V_aload_n dX8_figures_39 rfl ?_
      refine V_geti 8 8 dX8_figures_40 (Or.inl lkX8_63) rfl rfl ⟨by omega, by omega⟩ ?_
      rw [setWP_8]
      refine V_if_ne (tgt := 97) dX8_figures_43 (by decide) (fun c43 => absurd rfl c43) (fun c43 => ?_)
      refine V_aload_n dX8_figures_46 rfl ?_
      refine V_callV (ci := 8) (qX8_here n mr hR hn a ha5 T E hE _ (p + 1) (by omega) hSt1) dX8_figures_47 mlX8_67 mtX8_here ivX8_here rfl rfl ⟨by omega, by omega⟩ (by decide) rfl rfl (by decide) (Nat.le_of_ble_eq_true rfl) rfl rfl ?_
      rintro _ _ _ _ ⟨rfl, rfl, rfl, rfl⟩
      refine V_bipush (v := 48) dX8_figures_50 rfl ?_
      refine V_bipush (v := 57) dX8_figures_52 rfl ?_
      refine V_callS (qX8_in _ _ _ _ _ _) dX8_figures_54 mlX8_53 mtX8_in smX8_in rfl rfl (by decide) (Nat.le_of_ble_eq_true rfl) rfl rfl ?_
      rintro _ _ _ _ ⟨rfl, rfl, rfl, rfl⟩
      refine V_if_eq (tgt := 97) dX8_figures_57 (by decide) (fun c57 => ?_) (fun c57 => ?_)
      · first
          | exact hone (fun h => b01_0.mp c57 (dg_in.mpr h.2))
          | exact hone (fun h => absurd ((le_nat (nI_toInt (n := dgV (tk T E p)) (by omega)) (y := 0) (b := 0) rfl).mp c65) (by omega))
      · refine V_iload_n dX8_figures_60 rfl ?_
        refine V_if_eq (tgt := 68) dX8_figures_61 (by decide) (fun c61 => absurd c61 (by decide)) (fun c61 => ?_)
        refine V_iload_n dX8_figures_64 rfl ?_
        refine V_if_le (tgt := 97) dX8_figures_65 (by decide) (fun c65 => ?_) (fun c65 => ?_)
        · first
            | exact hone (fun h => b01_0.mp c57 (dg_in.mpr h.2))
            | exact hone (fun h => absurd ((le_nat (nI_toInt (n := dgV (tk T E p)) (by omega)) (y := 0) (b := 0) rfl).mp c65) (by omega))
        · have hd2 : isDg (tk T E (p + 1)) = true := dg_in.mp (b01_n.mp c57)
          have hpE1 := dg_lt hd2
          have hdv2 := dg_v hd2
          have hne : dgV (tk T E p) ≠ 0 := fun e => c65 (by rw [e]; decide)
          rw [if_pos (And.intro hne hd2)] at hun
          have hval2 : 10 * nI (dgV (tk T E p)) + tk T E (p + 1) - 48 = nI (10 * dgV (tk T E p) + dgV (tk T E (p + 1))) := by
            have h10 : (10 * nI (dgV (tk T E p))).toInt = ((10 * dgV (tk T E p) : Nat) : Int) := ix_mul (a := 10) rfl (nI_toInt (by omega)) (by omega)
            refine nI_of_toInt ?_
            rw [i_sub (i_add h10 hdv2.1 (by omega)) (b := 48) (by decide) (by omega)]
            omega
          refine V_bipush (v := 10) dX8_figures_68 rfl ?_
          refine V_iload_n dX8_figures_70 rfl ?_
          refine V_imul dX8_figures_71 ?_
          refine V_aload_n dX8_figures_72 rfl ?_
          refine V_callV (ci := 8) (qX8_here n mr hR hn a ha5 T E hE _ (p + 1) (by omega) hSt1) dX8_figures_73 mlX8_67 mtX8_here ivX8_here rfl rfl ⟨by omega, by omega⟩ (by decide) rfl rfl (by decide) (Nat.le_of_ble_eq_true rfl) rfl rfl ?_
          rintro _ _ _ _ ⟨rfl, rfl, rfl, rfl⟩
          refine V_iadd dX8_figures_76 ?_
          refine V_bipush (v := 48) dX8_figures_77 rfl ?_
          refine V_isub dX8_figures_79 ?_
          rw [hval2]
          refine V_istore_n (L' := [_, _, _]) dX8_figures_80 (by decide) rfl rfl ?_
          refine V_aload_n dX8_figures_81 rfl ?_
          refine V_dup dX8_figures_82 rfl ?_
          refine V_geti 8 6 dX8_figures_83 (Or.inl lkX8_57) rfl rfl ⟨by omega, by omega⟩ ?_
          refine V_iconst (v := 1) dX8_figures_86 rfl ?_
          refine V_iadd dX8_figures_87 ?_
          rw [setWP_6, nI_p1]
          refine V_puti 8 6 dX8_figures_88 (Or.inl lkX8_57) rfl rfl rfl rfl ⟨by omega, by omega⟩ ?_
          rw [wp_s]
          refine V_iinc (v := _ + (1)) (L' := [_, _, _]) dX8_figures_91 (by decide) rfl rfl rfl rfl ?_
          refine V_goto (tgt := 34) dX8_figures_94 (by decide) ?_
          refine h3 _ ?_ hun
          exact rfl
    refine V_iconst (v := 0) dX8_figures_30 rfl ?_
    refine V_istore_n (L' := [_, _, _]) dX8_figures_31 (by decide) rfl rfl ?_
    refine V_iconst (v := 0) dX8_figures_32 rfl ?_
    refine V_istore_n (L' := [_, _, _]) dX8_figures_33 (by decide) rfl rfl ?_
    refine V_iload_n dX8_figures_34 rfl ?_
    refine V_iconst (v := 2) dX8_figures_35 rfl ?_
    refine V_icmp_ge (tgt := 97) dX8_figures_36 (by decide) (fun c36 => absurd c36 (by decide)) (fun c36 => ?_)
    refine V_aload_n dX8_figures_39 rfl ?_
    refine V_geti 8 8 dX8_figures_40 (Or.inl lkX8_63) rfl rfl ⟨by omega, by omega⟩ ?_
    rw [setWP_8]
    refine V_if_ne (tgt := 97) dX8_figures_43 (by decide) (fun c43 => absurd rfl c43) (fun c43 => ?_)
    refine V_aload_n dX8_figures_46 rfl ?_
    refine V_callV (ci := 8) (qX8_here n mr hR hn a ha5 T E hE _ p hp hSt.go) dX8_figures_47 mlX8_67 mtX8_here ivX8_here rfl rfl ⟨by omega, by omega⟩ (by decide) rfl rfl (by decide) (Nat.le_of_ble_eq_true rfl) rfl rfl ?_
    rintro _ _ _ _ ⟨rfl, rfl, rfl, rfl⟩
    refine V_bipush (v := 48) dX8_figures_50 rfl ?_
    refine V_bipush (v := 57) dX8_figures_52 rfl ?_
    refine V_callS (qX8_in _ _ _ _ _ _) dX8_figures_54 mlX8_53 mtX8_in smX8_in rfl rfl (by decide) (Nat.le_of_ble_eq_true rfl) rfl rfl ?_
    rintro _ _ _ _ ⟨rfl, rfl, rfl, rfl⟩
    refine V_if_eq (tgt := 97) dX8_figures_57 (by decide) (fun c57 => absurd (dg_in.mpr hd) (b01_0.mp c57)) (fun c57 => ?_)
    refine V_iload_n dX8_figures_60 rfl ?_
    refine V_if_eq (tgt := 68) dX8_figures_61 (by decide) (fun c61 => ?_) (fun c61 => absurd rfl c61)
    refine V_bipush (v := 10) dX8_figures_68 rfl ?_
    refine V_iload_n dX8_figures_70 rfl ?_
    refine V_imul dX8_figures_71 ?_
    refine V_aload_n dX8_figures_72 rfl ?_
    refine V_callV (ci := 8) (qX8_here n mr hR hn a ha5 T E hE _ p hp hSt.go) dX8_figures_73 mlX8_67 mtX8_here ivX8_here rfl rfl ⟨by omega, by omega⟩ (by decide) rfl rfl (by decide) (Nat.le_of_ble_eq_true rfl) rfl rfl ?_
    rintro _ _ _ _ ⟨rfl, rfl, rfl, rfl⟩
    refine V_iadd dX8_figures_76 ?_
    refine V_bipush (v := 48) dX8_figures_77 rfl ?_
    refine V_isub dX8_figures_79 ?_
    rw [hval]
    refine V_istore_n (L' := [_, _, _]) dX8_figures_80 (by decide) rfl rfl ?_
    refine V_aload_n dX8_figures_81 rfl ?_
    refine V_dup dX8_figures_82 rfl ?_
    refine V_geti 8 6 dX8_figures_83 (Or.inl lkX8_57) rfl rfl ⟨by omega, by omega⟩ ?_
    refine V_iconst (v := 1) dX8_figures_86 rfl ?_
    refine V_iadd dX8_figures_87 ?_
    rw [setWP_6, nI_p1]
    refine V_puti 8 6 dX8_figures_88 (Or.inl lkX8_57) rfl rfl rfl rfl ⟨by omega, by omega⟩ ?_
    rw [wp_s]
    refine V_iinc (v := _ + (1)) (L' := [_, _, _]) dX8_figures_91 (by decide) rfl rfl rfl rfl ?_
    refine V_goto (tgt := 34) dX8_figures_94 (by decide) ?_
    exact hsec
  refine V_aload_n dX8_figures_0 rfl ?_
  refine V_aload_n dX8_figures_1 rfl ?_
  refine V_geti 8 8 dX8_figures_2 (Or.inl lkX8_63) rfl rfl ⟨by omega, by omega⟩ ?_
  refine V_if_ne (tgt := 22) dX8_figures_5 (by decide) (fun c5 => absurd h8 c5) (fun c5 => ?_)
  refine V_aload_n dX8_figures_8 rfl ?_
  refine V_callV (ci := 8) (qX8_here n mr hR hn a ha5 T E hE mi p hp hSt) dX8_figures_9 mlX8_67 mtX8_here ivX8_here rfl rfl ⟨by omega, by omega⟩ (by decide) rfl rfl (by decide) (Nat.le_of_ble_eq_true rfl) rfl rfl ?_
  rintro _ _ _ _ ⟨rfl, rfl, rfl, rfl⟩
  refine V_bipush (v := 48) dX8_figures_12 rfl ?_
  refine V_bipush (v := 57) dX8_figures_14 rfl ?_
  refine V_callS (qX8_in _ _ _ _ _ _) dX8_figures_16 mlX8_53 mtX8_in smX8_in rfl rfl (by decide) (Nat.le_of_ble_eq_true rfl) rfl rfl ?_
  rintro _ _ _ _ ⟨rfl, rfl, rfl, rfl⟩
  refine V_if_ne (tgt := 26) dX8_figures_19 (by decide) (fun c19 => ?_) (fun c19 => ?_)
  · refine V_iconst (v := 0) dX8_figures_26 rfl ?_
    refine V_puti 8 8 dX8_figures_27 (Or.inl lkX8_63) rfl rfl rfl rfl ⟨by omega, by omega⟩ ?_
    have hgo : ∀ x : Int32, up2 mi 173 8 x = setWP mi x p := fun x => by
      unfold setWP
      exact (up2_id (by rw [up2_k (by decide)]; exact hSt.2.2.1)).symm
    rw [hgo]
    first
      | exact hgood (dg_in.mp (b01_n.mp c19))
      | exact hbad (fun h => b01_0.mp c19 (dg_in.mpr h))
  · refine V_iconst (v := 1) dX8_figures_22 rfl ?_
    refine V_goto (tgt := 27) dX8_figures_23 (by decide) ?_
    refine V_puti 8 8 dX8_figures_27 (Or.inl lkX8_63) rfl rfl rfl rfl ⟨by omega, by omega⟩ ?_
    have hgo : ∀ x : Int32, up2 mi 173 8 x = setWP mi x p := fun x => by
      unfold setWP
      exact (up2_id (by rw [up2_k (by decide)]; exact hSt.2.2.1)).symm
    rw [hgo]
    first
      | exact hgood (dg_in.mp (b01_n.mp c19))
      | exact hbad (fun h => b01_0.mp c19 (dg_in.mpr h))
set_option maxRecDepth 4000 in
theorem qX8_figuresW (n : Nat) (mr : MR) (hR : RF mr) (hn : 186 ≤ n) (a : Nat) (ha5 : a < 5) (T : Nat → Int32) (E : Nat) (hE : E ≤ 100) (mi : MI) (p : Nat) (hp : p ≤ E) (hSt : MdS mi a T E p) (h8 : mi 173 8 = 1)  : Ct KX8_figures 2 0 0 [.ref 173] n mi mr (eqQ (some (.int 0)) n mi mr) := by
  refine Ct.of2 [some (.ref 173), none, none] (by decide +kernel) (Nat.le_of_ble_eq_true rfl) rfl ?_
  refine V_aload_n dX8_figures_0 rfl ?_
  refine V_aload_n dX8_figures_1 rfl ?_
  refine V_geti 8 8 dX8_figures_2 (Or.inl lkX8_63) rfl rfl ⟨by omega, by omega⟩ ?_
  refine V_if_ne (tgt := 22) dX8_figures_5 (by decide) (fun c5 => ?_) (fun c5 => absurd (h8.symm.trans c5) (by decide))
  refine V_iconst (v := 1) dX8_figures_22 rfl ?_
  refine V_goto (tgt := 27) dX8_figures_23 (by decide) ?_
  refine V_puti 8 8 dX8_figures_27 (Or.inl lkX8_63) rfl rfl rfl rfl ⟨by omega, by omega⟩ ?_
  refine V_iconst (v := 0) dX8_figures_30 rfl ?_
  refine V_istore_n (L' := [_, _, _]) dX8_figures_31 (by decide) rfl rfl ?_
  refine V_iconst (v := 0) dX8_figures_32 rfl ?_
  refine V_istore_n (L' := [_, _, _]) dX8_figures_33 (by decide) rfl rfl ?_
  refine V_iload_n dX8_figures_34 rfl ?_
  refine V_iconst (v := 2) dX8_figures_35 rfl ?_
  refine V_icmp_ge (tgt := 97) dX8_figures_36 (by decide) (fun c36 => absurd c36 (by decide)) (fun c36 => ?_)
  refine V_aload_n dX8_figures_39 rfl ?_
  refine V_geti 8 8 dX8_figures_40 (Or.inl lkX8_63) rfl rfl ⟨by omega, by omega⟩ ?_
  rw [up2_s]
  refine V_if_ne (tgt := 97) dX8_figures_43 (by decide) (fun c43 => ?_) (fun c43 => absurd c43 (by decide))
  refine V_iload_n dX8_figures_97 rfl ?_
  refine V_iret dX8_figures_98 rfl rfl ?_
  exact ⟨rfl, rfl, (up2_id h8).symm, rfl⟩
/-- so many steps stand in the reference's village a, and these -/
def WR (mi : MI) (a : Nat) (W : List Int32) : Prop := mi 174 (233 + a) = nI W.length ∧ ∀ j, j < W.length → mi 174 (238 + 140 * a + j) = W.getD j 0
def addR (mi : MI) (a c : Nat) (x : Int32) : MI := up2 (up2 mi 174 (238 + 140 * a + c) x) 174 (233 + a) (nI (c + 1))
theorem addR_wr {mi : MI} {a : Nat} {W : List Int32} {x : Int32} (h : WR mi a W) (ha : a < 5) : WR (addR mi a W.length x) a (W ++ [x]) := by
  unfold addR
  refine ⟨?_, fun j hj => ?_⟩
  · rw [up2_s, List.length_append, List.length_singleton]
  · rw [getD_snoc, up2_k (by omega)]
    rw [List.length_append, List.length_singleton] at hj
    by_cases e : j = W.length
    · rw [if_pos e, e, up2_s]
    · rw [if_neg e, up2_k (by omega)]
      exact h.2 j (by omega)
set_option maxRecDepth 4000 in
theorem qX8_emits (n : Nat) (mr : MR) (hR : RF mr) (hn : 186 ≤ n) (a : Nat) (ha5 : a < 5) (T : Nat → Int32) (E : Nat) (hE : E ≤ 100) (mi : MI) (h5 : mi 173 5 = nI a) (h8 : mi 173 8 = 0) (c : Nat) (hc : c < 140) (hs : mi 174 (233 + a) = nI c) (x : Int32)  : Ct KX8_emits 1 0 0 [.ref 173, .int x] n mi mr (eqQ none n (addR mi a c x) mr) := by
  refine Ct.of2 [some (.ref 173), some (.int x)] (by decide +kernel) (Nat.le_of_ble_eq_true rfl) rfl ?_
  have hai : (mi 173 5).toInt = (a : Int) := by rw [h5]; exact nI_toInt (by omega)
  have hci : (mi 174 (233 + a)).toInt = (c : Int) := by rw [hs]; exact nI_toInt (by omega)
  refine V_aload_n dX8_emits_0 rfl ?_
  refine V_geti 8 8 dX8_emits_1 (Or.inl lkX8_63) rfl rfl ⟨by omega, by omega⟩ ?_
  refine V_if_ne (tgt := 56) dX8_emits_4 (by decide) (fun c4 => absurd h8 c4) (fun c4 => ?_)
  refine V_aload_n dX8_emits_7 rfl ?_
  refine V_getr (b := 174) 8 1 dX8_emits_8 (Or.inl lkX8_9) rfl rfl ⟨by omega, by omega⟩ (hR _ _ _ rfl) ?_
  refine V_sipush (v := 238) dX8_emits_11 rfl ?_
  refine V_sipush (v := 140) dX8_emits_14 rfl ?_
  refine V_aload_n dX8_emits_17 rfl ?_
  refine V_geti 8 5 dX8_emits_18 (Or.inl lkX8_84) rfl rfl ⟨by omega, by omega⟩ ?_
  refine V_imul dX8_emits_21 ?_
  refine V_iadd dX8_emits_22 ?_
  refine V_aload_n dX8_emits_23 rfl ?_
  refine V_getr (b := 174) 8 1 dX8_emits_24 (Or.inl lkX8_9) rfl rfl ⟨by omega, by omega⟩ (hR _ _ _ rfl) ?_
  refine V_sipush (v := 233) dX8_emits_27 rfl ?_
  refine V_aload_n dX8_emits_30 rfl ?_
  refine V_geti 8 5 dX8_emits_31 (Or.inl lkX8_84) rfl rfl ⟨by omega, by omega⟩ ?_
  refine V_iadd dX8_emits_34 ?_
  refine V_iald (len := 938) (233 + a) dX8_emits_35 rfl ⟨by omega, by omega⟩ (ix_add (a := 233) rfl hai (by omega)) (by omega) ?_
  refine V_iadd dX8_emits_36 ?_
  refine V_iload_n dX8_emits_37 rfl ?_
  refine V_iast (len := 938) (238 + 140 * a + c) dX8_emits_38 rfl ⟨by omega, by omega⟩ (ix_add (ix_add (a := 238) rfl (ix_mul (a := 140) rfl hai (by omega)) (by omega)) hci (by omega)) (by omega) ?_
  refine V_aload_n dX8_emits_39 rfl ?_
  refine V_getr (b := 174) 8 1 dX8_emits_40 (Or.inl lkX8_9) rfl rfl ⟨by omega, by omega⟩ (hR _ _ _ rfl) ?_
  refine V_sipush (v := 233) dX8_emits_43 rfl ?_
  refine V_aload_n dX8_emits_46 rfl ?_
  refine V_geti 8 5 dX8_emits_47 (Or.inl lkX8_84) rfl rfl ⟨by omega, by omega⟩ ?_
  refine V_iadd dX8_emits_50 ?_
  refine V_dup2 dX8_emits_51 rfl rfl ?_
  refine V_iald (len := 938) (233 + a) dX8_emits_52 rfl ⟨by omega, by omega⟩ (ix_add (a := 233) rfl (by rw [up2_row (by decide)]; exact hai) (by omega)) (by omega) ?_
  rw [up2_k (by omega), hs]
  refine V_iconst (v := 1) dX8_emits_53 rfl ?_
  refine V_iadd dX8_emits_54 ?_
  rw [nI_p1]
  refine V_iast (len := 938) (233 + a) dX8_emits_55 rfl ⟨by omega, by omega⟩ (ix_add (a := 233) rfl (by rw [up2_row (by decide)]; exact hai) (by omega)) (by omega) ?_
  refine V_ret dX8_emits_56 rfl ?_
  exact ⟨rfl, rfl, rfl, rfl⟩
set_option maxRecDepth 4000 in
theorem qX8_emitsW (n : Nat) (mr : MR) (hR : RF mr) (hn : 186 ≤ n) (a : Nat) (ha5 : a < 5) (T : Nat → Int32) (E : Nat) (hE : E ≤ 100) (mi : MI) (h8 : mi 173 8 = 1) (x : Int32)  : Ct KX8_emits 1 0 0 [.ref 173, .int x] n mi mr (eqQ none n mi mr) := by
  refine Ct.of2 [some (.ref 173), some (.int x)] (by decide +kernel) (Nat.le_of_ble_eq_true rfl) rfl ?_
  refine V_aload_n dX8_emits_0 rfl ?_
  refine V_geti 8 8 dX8_emits_1 (Or.inl lkX8_63) rfl rfl ⟨by omega, by omega⟩ ?_
  refine V_if_ne (tgt := 56) dX8_emits_4 (by decide) (fun c4 => ?_) (fun c4 => absurd (h8.symm.trans c4) (by decide))
  refine V_ret dX8_emits_56 rfl ?_
  exact ⟨rfl, rfl, rfl, rfl⟩
