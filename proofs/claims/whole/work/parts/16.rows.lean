/-- a place of a person: its fields but the number, and its row -/
def offP (a : Nat) : Nat → Nat → Prop := fun i k => (i = a ∧ 1 ≤ k) ∨ i = a + 1
def perIs (mi : MI) (a : Nat) (kind v born life has : Int32) (rw : Nat → Int32) : Prop := mi a 1 = kind ∧ mi a 2 = v ∧ mi a 3 = born ∧ mi a 4 = life ∧ mi a 5 = has ∧ ∀ k, k < 4 → mi (a + 1) k = rw k
theorem Off.e {S : Nat → Nat → Prop} {mi mi' : MI} (h : Off S mi mi') {a k : Nat} (hn : ¬ S a k) : mi' a k = mi a k := h a k hn
theorem Off.up' {S : Nat → Nat → Prop} {mi : MI} {a k : Nat} {x : Int32} (hs : S a k) : Off S mi (up2 mi a k x) := Off.rf.up hs
/-- so many rows of rows: what, who, number, size -/
def offR (a : Nat) : Nat → Nat → Prop := fun i k => (i = a ∧ k = 3) ∨ i = a + 1 ∨ i = a + 2 ∨ i = a + 3
set_option maxRecDepth 4000 in
theorem qX1_comeToLife (n : Nat) (mi : MI) (mr : MR) (hR : RF mr) (hn : 186 ≤ n) (a : Nat) (hp : isP a) (kind v born life : Int32) : Ct KX1_comeToLife 1 0 0 [.ref a, .int kind, .int v, .int born, .int life] n mi mr (fun r n' mi' mr' => none = r ∧ n = n' ∧ mr = mr' ∧ Off (offP a) mi mi' ∧ perIs mi' a kind v born life (-1) (fun _ => 0)) := by
  refine Ct.of2 [some (.ref a), some (.int kind), some (.int v), some (.int born), some (.int life), none] (by decide +kernel) (Nat.le_of_ble_eq_true rfl) rfl ?_
  have hle := hp.le
  refine V_aload_n dX1_comeToLife_0 rfl ?_
  refine V_iload_n dX1_comeToLife_1 rfl ?_
  refine V_puti 1 1 dX1_comeToLife_2 (Or.inl lkX1_22) rfl rfl rfl (sP hp) ⟨by omega, by omega⟩ ?_
  refine V_aload_n dX1_comeToLife_5 rfl ?_
  refine V_iload_n dX1_comeToLife_6 rfl ?_
  refine V_puti 1 2 dX1_comeToLife_7 (Or.inl lkX1_25) rfl rfl rfl (sP hp) ⟨by omega, by omega⟩ ?_
  refine V_aload_n dX1_comeToLife_10 rfl ?_
  refine V_iload_n dX1_comeToLife_11 rfl ?_
  refine V_puti 1 3 dX1_comeToLife_12 (Or.inl lkX1_28) rfl rfl rfl (sP hp) ⟨by omega, by omega⟩ ?_
  refine V_aload_n dX1_comeToLife_15 rfl ?_
  refine V_iload dX1_comeToLife_16 rfl ?_
  refine V_puti 1 4 dX1_comeToLife_18 (Or.inl lkX1_31) rfl rfl rfl (sP hp) ⟨by omega, by omega⟩ ?_
  refine V_aload_n dX1_comeToLife_21 rfl ?_
  refine V_iconst (v := -1) dX1_comeToLife_22 rfl ?_
  refine V_puti 1 5 dX1_comeToLife_23 (Or.inl lkX1_9) rfl rfl rfl (sP hp) ⟨by omega, by omega⟩ ?_
  refine V_iconst (v := 0) dX1_comeToLife_26 rfl ?_
  refine V_istore (L' := [_, _, _, _, _, _]) dX1_comeToLife_27 (by decide) rfl rfl ?_
  generalize hmj : up2 (up2 (up2 (up2 (up2 mi a 1 kind) a 2 v) a 3 born) a 4 life) a 5 (-1) = m0
  have loop : ∀ (m i : Nat) (x : Int32) (mj : MI), i + m = 4 → x.toInt = (i : Int) → Off (fun i k => i = a + 1) m0 mj → (∀ k, k < i → mj (a + 1) k = 0) → V KX1_comeToLife 1 0 0 (fun r n' mi' mr' => none = r ∧ n = n' ∧ mr = mr' ∧ Off (offP a) mi mi' ∧ perIs mi' a kind v born life (-1) (fun _ => 0)) 29 [some (.ref a), some (.int kind), some (.int v), some (.int born), some (.int life), some (.int x)] [] n mj mr := by
    intro m
    induction m with
    | zero =>
      intro i x mj him hx ho hz
      refine V_iload dX1_comeToLife_29 rfl ?_
      refine V_aload_n dX1_comeToLife_31 rfl ?_
      refine V_getr (b := (a + 1)) 1 6 dX1_comeToLife_32 (Or.inl lkX1_15) rfl (sP hp) ⟨by omega, by omega⟩ (hR _ _ _ (rP hp)) ?_
      refine V_alen (len := 4) (v := 4) dX1_comeToLife_35 (sPr hp) (by decide) ⟨by omega, by omega⟩ rfl ?_
      refine V_icmp_ge (tgt := 53) dX1_comeToLife_36 (by decide) (fun c36 => ?_) (fun c36 => absurd ((le_nat (x := 4) (a := 4) rfl hx).mpr (by omega)) c36)
      refine V_ret dX1_comeToLife_53 rfl ?_
      have hi : i = 4 := by omega
      subst hi
      have hof : ∀ k, mj a k = m0 a k := fun k => ho a k (by omega)
      refine ⟨rfl, rfl, rfl, ?_, ?_, ?_, ?_, ?_, ?_, hz⟩
      · intro b k hbk
        unfold offP at hbk
        rw [ho b k (by omega), ← hmj]
        simp only [up2]
        repeat rw [if_neg (by omega)]
      all_goals (rw [hof, ← hmj]; simp [up2])
    | succ m ih =>
      intro i x mj him hx ho hz
      refine V_iload dX1_comeToLife_29 rfl ?_
      refine V_aload_n dX1_comeToLife_31 rfl ?_
      refine V_getr (b := (a + 1)) 1 6 dX1_comeToLife_32 (Or.inl lkX1_15) rfl (sP hp) ⟨by omega, by omega⟩ (hR _ _ _ (rP hp)) ?_
      refine V_alen (len := 4) (v := 4) dX1_comeToLife_35 (sPr hp) (by decide) ⟨by omega, by omega⟩ rfl ?_
      refine V_icmp_ge (tgt := 53) dX1_comeToLife_36 (by decide) (fun c36 => absurd ((le_nat (x := 4) (a := 4) rfl hx).mp c36) (by omega)) (fun c36 => ?_)
      refine V_aload_n dX1_comeToLife_39 rfl ?_
      refine V_getr (b := (a + 1)) 1 6 dX1_comeToLife_40 (Or.inl lkX1_15) rfl (sP hp) ⟨by omega, by omega⟩ (hR _ _ _ (rP hp)) ?_
      refine V_iload dX1_comeToLife_43 rfl ?_
      refine V_iconst (v := 0) dX1_comeToLife_45 rfl ?_
      refine V_iast (len := 4) i dX1_comeToLife_46 (sPr hp) ⟨by omega, by omega⟩ hx (by omega) ?_
      refine V_iinc (v := _ + (1)) (L' := [_, _, _, _, _, _]) dX1_comeToLife_47 (by decide) rfl rfl rfl rfl ?_
      refine V_goto (tgt := 29) dX1_comeToLife_50 (by decide) ?_
      refine ih (i + 1) _ _ (by omega) (ix_add hx (by decide) (by omega)) (ho.up rfl) (fun k hk => ?_)
      by_cases e : k = i
      · subst e
        exact up2_s
      · rw [up2_k e]
        exact hz k (by omega)
  exact loop 4 0 _ _ (by omega) (by decide) Off.rf (fun k hk => absurd hk (by omega))
set_option maxRecDepth 4000 in
theorem qX1_become (n : Nat) (mi : MI) (mr : MR) (hR : RF mr) (hn : 186 ≤ n) (a : Nat) (hp : isP a) (b : Nat) (hpb : isP b) (hab : a + 1 < b ∨ b + 1 < a) : Ct KX1_become 2 0 0 [.ref a, .ref b] n mi mr (fun r n' mi' mr' => none = r ∧ n = n' ∧ mr = mr' ∧ Off (offP a) mi mi' ∧ perIs mi' a (mi b 1) (mi b 2) (mi b 3) (mi b 4) (mi b 5) (mi (b + 1))) := by
  refine Ct.of2 [some (.ref a), some (.ref b)] (by decide +kernel) (Nat.le_of_ble_eq_true rfl) rfl ?_
  have hle := hp.le
  have hlb := hpb.le
  refine V_aload_n dX1_become_0 rfl ?_
  refine V_aload_n dX1_become_1 rfl ?_
  refine V_geti 1 1 dX1_become_2 (Or.inl lkX1_22) rfl (sP hpb) ⟨by omega, by omega⟩ ?_
  refine V_aload_n dX1_become_5 rfl ?_
  refine V_geti 1 2 dX1_become_6 (Or.inl lkX1_25) rfl (sP hpb) ⟨by omega, by omega⟩ ?_
  refine V_aload_n dX1_become_9 rfl ?_
  refine V_geti 1 3 dX1_become_10 (Or.inl lkX1_28) rfl (sP hpb) ⟨by omega, by omega⟩ ?_
  refine V_aload_n dX1_become_13 rfl ?_
  refine V_geti 1 4 dX1_become_14 (Or.inl lkX1_31) rfl (sP hpb) ⟨by omega, by omega⟩ ?_
  refine V_callV (ci := 1) (qX1_comeToLife _ _ _ hR hn _ hp _ _ _ _) dX1_become_17 mlX1_34 mtX1_comeToLife ivX1_comeToLife rfl (sP hp) ⟨by omega, by omega⟩ (by decide) rfl rfl (by decide) (Nat.le_of_ble_eq_true rfl) rfl rfl ?_
  rintro _ _ m2 _ ⟨rfl, rfl, rfl, ho, hi⟩
  refine V_aload_n dX1_become_20 rfl ?_
  refine V_aload_n dX1_become_21 rfl ?_
  refine V_geti 1 5 dX1_become_22 (Or.inl lkX1_9) rfl (sP hpb) ⟨by omega, by omega⟩ ?_
  refine V_puti 1 5 dX1_become_25 (Or.inl lkX1_9) rfl rfl rfl (sP hp) ⟨by omega, by omega⟩ ?_
  refine V_aload_n dX1_become_28 rfl ?_
  refine V_getr (b := (b + 1)) 1 6 dX1_become_29 (Or.inl lkX1_15) rfl (sP hpb) ⟨by omega, by omega⟩ (hR _ _ _ (rP hpb)) ?_
  refine V_iconst (v := 0) dX1_become_32 rfl ?_
  refine V_aload_n dX1_become_33 rfl ?_
  refine V_getr (b := (a + 1)) 1 6 dX1_become_34 (Or.inl lkX1_15) rfl (sP hp) ⟨by omega, by omega⟩ (hR _ _ _ (rP hp)) ?_
  refine V_iconst (v := 0) dX1_become_37 rfl ?_
  refine V_aload_n dX1_become_38 rfl ?_
  refine V_getr (b := (a + 1)) 1 6 dX1_become_39 (Or.inl lkX1_15) rfl (sP hp) ⟨by omega, by omega⟩ (hR _ _ _ (rP hp)) ?_
  refine V_alen (len := 4) (v := 4) dX1_become_42 (sPr hp) (by decide) ⟨by omega, by omega⟩ rfl ?_
  refine V_copy (t := 0) (len := 4) dX1_become_43 mlX1_38 nat_copy sm_copy iniJ10 (sPr hpb) (sPr hp) (by decide) ⟨by omega, by omega⟩ ⟨by omega, by omega⟩ rfl (by decide) (fun _ _ => rfl) (by decide) (Nat.le_of_ble_eq_true rfl) ?_
  refine V_ret dX1_become_46 rfl ?_
  have hof : ∀ i, i = b ∨ i = b + 1 → ∀ k, m2 i k = mi i k := fun i hi k => ho i k (by unfold offP; omega)
  obtain ⟨i1, i2, i3, i4, i5, i6⟩ := hi
  refine ⟨rfl, rfl, rfl, ?_, ?_, ?_, ?_, ?_, ?_, ?_⟩
  · intro i k hik
    have h9 := ho i k hik
    unfold offP at hik
    simp only [cp2, up2]
    repeat rw [if_neg (by omega)]
    exact h9
  · simp only [cp2, up2]
    repeat rw [if_neg (by omega)]
    exact i1
  · simp only [cp2, up2]
    repeat rw [if_neg (by omega)]
    exact i2
  · simp only [cp2, up2]
    repeat rw [if_neg (by omega)]
    exact i3
  · simp only [cp2, up2]
    repeat rw [if_neg (by omega)]
    exact i4
  · have h9 := hof b (Or.inl rfl) 5
    simp [cp2, up2, h9]
  · intro k hk
    have h9 := hof (b + 1) (Or.inr rfl) k
    have h8 : ¬ b + 1 = a := by omega
    simp [cp2, up2, hk, h8, h9]
set_option maxRecDepth 4000 in
theorem qX3_empty (n : Nat) (mi : MI) (mr : MR) (hR : RF mr) (hn : 186 ≤ n) (a len : Nat) (hr : isR a len)  : Ct KX3_empty 1 0 0 [.ref a] n mi mr (eqQ (some (.int 0)) n (up2 mi a 3 0) mr) := by
  refine Ct.of2 [some (.ref a)] (by decide +kernel) (Nat.le_of_ble_eq_true rfl) rfl ?_
  have hle := hr.le
  refine V_aload_n dX3_empty_0 rfl ?_
  refine V_iconst (v := 0) dX3_empty_1 rfl ?_
  refine V_puti 3 3 dX3_empty_2 (Or.inl lkX3_21) rfl rfl rfl (sR hr) ⟨by omega, by omega⟩ ?_
  refine V_iconst (v := 0) dX3_empty_5 rfl ?_
  refine V_iret dX3_empty_6 rfl rfl ?_
  exact ⟨rfl, rfl, rfl, rfl⟩
set_option maxRecDepth 4000 in
theorem qX3_add (n : Nat) (mi : MI) (mr : MR) (hR : RF mr) (hn : 186 ≤ n) (a len : Nat) (hr : isR a len) (s : Nat) (hs : (mi a 3).toInt = (s : Int)) (hsl : s ≤ len) (hlen : len ≤ 8) (x y z : Int32) : Ct KX3_add 1 0 0 [.ref a, .int x, .int y, .int z] n mi mr (eqQ (some (.int (if s < len then mi a 3 + 1 else -4))) n (if s < len then up2 (up2 (up2 (up2 mi (a + 1) s x) (a + 2) s y) (a + 3) s z) a 3 (mi a 3 + 1) else mi) mr) := by
  refine Ct.of2 [some (.ref a), some (.int x), some (.int y), some (.int z)] (by decide +kernel) (Nat.le_of_ble_eq_true rfl) rfl ?_
  have hle := hr.le
  refine V_aload_n dX3_add_0 rfl ?_
  refine V_geti 3 3 dX3_add_1 (Or.inl lkX3_21) rfl (sR hr) ⟨by omega, by omega⟩ ?_
  refine V_aload_n dX3_add_4 rfl ?_
  refine V_getr (b := (a + 1)) 3 0 dX3_add_5 (Or.inl lkX3_9) rfl (sR hr) ⟨by omega, by omega⟩ (hR _ _ _ (rR hr (k := 0) (by omega))) ?_
  refine V_alen (len := len) (v := Int32.ofNat len) dX3_add_8 (sRa hr (k := 0) (by omega)) (by decide) ⟨by omega, by omega⟩ rfl ?_
  refine V_icmp_lt (tgt := 15) dX3_add_9 (by decide) (fun c9 => ?_) (fun c9 => ?_)
  · have hc : s < len := (lt_nat hs (nI_toInt (by omega))).mp c9
    refine V_aload_n dX3_add_15 rfl ?_
    refine V_getr (b := (a + 1)) 3 0 dX3_add_16 (Or.inl lkX3_9) rfl (sR hr) ⟨by omega, by omega⟩ (hR _ _ _ (rR hr (k := 0) (by omega))) ?_
    refine V_aload_n dX3_add_19 rfl ?_
    refine V_geti 3 3 dX3_add_20 (Or.inl lkX3_21) rfl (sR hr) ⟨by omega, by omega⟩ ?_
    refine V_iload_n dX3_add_23 rfl ?_
    refine V_iast (len := len) s dX3_add_24 (sRa hr (k := 0) (by omega)) ⟨by omega, by omega⟩ (by (try simp only [up2]); (repeat rw [if_neg (by omega)]); exact hs) (by omega) ?_
    refine V_aload_n dX3_add_25 rfl ?_
    refine V_getr (b := (a + 2)) 3 1 dX3_add_26 (Or.inl lkX3_15) rfl (sR hr) ⟨by omega, by omega⟩ (hR _ _ _ (rR hr (k := 1) (by omega))) ?_
    refine V_aload_n dX3_add_29 rfl ?_
    refine V_geti 3 3 dX3_add_30 (Or.inl lkX3_21) rfl (sR hr) ⟨by omega, by omega⟩ ?_
    refine V_iload_n dX3_add_33 rfl ?_
    refine V_iast (len := len) s dX3_add_34 (sRa hr (k := 1) (by omega)) ⟨by omega, by omega⟩ (by (try simp only [up2]); (repeat rw [if_neg (by omega)]); exact hs) (by omega) ?_
    refine V_aload_n dX3_add_35 rfl ?_
    refine V_getr (b := (a + 3)) 3 2 dX3_add_36 (Or.inl lkX3_18) rfl (sR hr) ⟨by omega, by omega⟩ (hR _ _ _ (rR hr (k := 2) (by omega))) ?_
    refine V_aload_n dX3_add_39 rfl ?_
    refine V_geti 3 3 dX3_add_40 (Or.inl lkX3_21) rfl (sR hr) ⟨by omega, by omega⟩ ?_
    refine V_iload_n dX3_add_43 rfl ?_
    refine V_iast (len := len) s dX3_add_44 (sRa hr (k := 2) (by omega)) ⟨by omega, by omega⟩ (by (try simp only [up2]); (repeat rw [if_neg (by omega)]); exact hs) (by omega) ?_
    refine V_aload_n dX3_add_45 rfl ?_
    refine V_dup dX3_add_46 rfl ?_
    refine V_geti 3 3 dX3_add_47 (Or.inl lkX3_21) rfl (sR hr) ⟨by omega, by omega⟩ ?_
    refine V_iconst (v := 1) dX3_add_50 rfl ?_
    refine V_iadd dX3_add_51 ?_
    refine V_puti 3 3 dX3_add_52 (Or.inl lkX3_21) rfl rfl rfl (sR hr) ⟨by omega, by omega⟩ ?_
    refine V_aload_n dX3_add_55 rfl ?_
    refine V_geti 3 3 dX3_add_56 (Or.inl lkX3_21) rfl (sR hr) ⟨by omega, by omega⟩ ?_
    refine V_iret dX3_add_59 rfl rfl ?_
    have hv2 : up2 (up2 (up2 mi (a + 1) s x) (a + 2) s y) (a + 3) s z a 3 = mi a 3 := by simp only [up2]; repeat rw [if_neg (by omega)]
    have hv3 : up2 (up2 (up2 (up2 mi (a + 1) s x) (a + 2) s y) (a + 3) s z) a 3 (mi a 3 + 1) a 3 = mi a 3 + 1 := up2_s
    rw [hv2]
    exact ⟨by rw [if_pos hc, hv3], rfl, by rw [if_pos hc], rfl⟩
  · refine V_bipush (v := -4) dX3_add_12 rfl ?_
    refine V_iret dX3_add_14 rfl rfl ?_
    have hc : ¬ s < len := fun h => c9 ((lt_nat hs (nI_toInt (by omega))).mpr h)
    exact ⟨by rw [if_neg hc], rfl, by rw [if_neg hc], rfl⟩
