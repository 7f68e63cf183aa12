/-- all up to k have none -/
def dryTo (mi : MI) (w : Nat) : Nat → MI
  | 0 => mi
  | k + 1 => up2 (dryTo mi w k) (w + 18 + 2 * k) 5 (-1)
theorem dryTo_off {mi : MI} {w : Nat} {a k : Nat} : ∀ {N : Nat}, (∀ p, p < N → ¬ (a = w + 18 + 2 * p ∧ k = 5)) → dryTo mi w N a k = mi a k
  | 0, _ => rfl
  | N + 1, h => by
    show up2 _ _ _ _ _ _ = _
    simp only [up2]
    rw [if_neg (h N (by omega))]
    exact dryTo_off (fun p hp => h p (by omega))
theorem dryTo_has {mi : MI} {w p : Nat} : ∀ {N : Nat}, p < N → dryTo mi w N (w + 18 + 2 * p) 5 = -1
  | 0, h => absurd h (by omega)
  | N + 1, h => by
    show up2 _ _ _ _ _ _ = _
    by_cases e : p = N
    · subst e
      exact up2_s
    · simp only [up2]
      rw [if_neg (by omega)]
      exact dryTo_has (by omega)
abbrev asSeen (mi : MI) (r S : Nat) (x age : Int32) : Prop := ∀ j, j < S → mi (r + 2) j = x → mi (r + 3) j = age
def nStep (mi m0 : MI) (w N j : Nat) : MI :=
  if m0 (w + 10) j = 0 then dryTo (up2 mi w 0 (mi w 0 + 1)) w N
  else if m0 (w + 10) j = 1 then (if mi (w + 3) (m0 (w + 12) j).toNatClampNeg = 0 then mi else up2 (up2 mi (w + 3) (m0 (w + 12) j).toNatClampNeg (mi (w + 3) (m0 (w + 12) j).toNatClampNeg - 1)) (w + 18 + 2 * (m0 (w + 11) j).toNatClampNeg) 5 (m0 (w + 12) j))
  else up2 mi (w + 18 + 2 * (m0 (w + 11) j).toNatClampNeg) 5 (-1)
def liveTo (mi : MI) (w N : Nat) : Nat → MI
  | 0 => mi
  | j + 1 => nStep (liveTo mi w N j) mi w N j
def offN (w : Nat) : Nat → Nat → Prop := fun a k => (a = w ∧ k = 0) ∨ a = w + 3 ∨ ∃ p, a = w + 18 + 2 * p ∧ k = 5
theorem nStep_off {mi m0 : MI} {w N j : Nat} : Off (offN w) mi (nStep mi m0 w N j) := by
  intro a k h
  unfold offN at h
  have h3 : ∀ p, ¬ (a = w + 18 + 2 * p ∧ k = 5) := fun p hp => h (Or.inr (Or.inr ⟨p, hp⟩))
  have h1 : ¬ (a = w ∧ k = 0) := fun q => h (Or.inl q)
  have h2 : ¬ a = w + 3 := fun q => h (Or.inr (Or.inl q))
  unfold nStep
  split
  · rw [dryTo_off (fun p _ => h3 p)]
    simp only [up2]
    rw [if_neg h1]
  · split
    · split
      · rfl
      · simp only [up2]
        rw [if_neg (h3 _), if_neg (fun q => h2 q.1)]
    · simp only [up2]
      rw [if_neg (h3 _)]
theorem liveTo_off {mi : MI} {w N : Nat} : ∀ j, Off (offN w) mi (liveTo mi w N j)
  | 0 => Off.rf
  | j + 1 => (liveTo_off j).tr nStep_off
def nightOK (mi : MI) (w N Nv S : Nat) : Prop := ∀ j, j < S → mi (w + 10) j = 0 ∨ ((∃ p : Nat, (mi (w + 11) j).toInt = (p : Int) ∧ p < N) ∧ (mi (w + 10) j = 1 → ∃ v : Nat, (mi (w + 12) j).toInt = (v : Int) ∧ v < Nv))
set_option maxRecDepth 4000 in
theorem qX3_become (n : Nat) (mi : MI) (mr : MR) (hR : RF mr) (hn : 186 ≤ n) (a b len : Nat) (hr : isR a len) (hrb : isR b len) (hab : a + 3 < b ∨ b + 3 < a) (s : Nat) (hs : (mi b 3).toInt = (s : Int)) (hsl : s ≤ len) (hlen : len ≤ 8) : Ct KX3_become 2 0 0 [.ref a, .ref b] n mi mr (fun r n' mi' mr' => none = r ∧ n = n' ∧ mr = mr' ∧ Off (offR a) mi mi' ∧ mi' a 3 = mi b 3 ∧ ∀ j, j < s → mi' (a + 1) j = mi (b + 1) j ∧ mi' (a + 2) j = mi (b + 2) j ∧ mi' (a + 3) j = mi (b + 3) j) := by
  refine Ct.of2 [some (.ref a), some (.ref b), none] (by decide +kernel) (Nat.le_of_ble_eq_true rfl) rfl ?_
  have hle := hr.le
  have hlb := hrb.le
  refine V_aload_n dX3_become_0 rfl ?_
  refine V_callV (ci := 3) (qX3_empty _ _ _ hR hn _ _ hr) dX3_become_1 mlX3_25 mtX3_empty ivX3_empty rfl (sR hr) ⟨by omega, by omega⟩ (by decide) rfl rfl (by decide) (Nat.le_of_ble_eq_true rfl) rfl rfl ?_
  rintro _ _ _ _ ⟨rfl, rfl, rfl, rfl⟩
  refine V_pop dX3_become_4 rfl ?_
  refine V_iconst (v := 0) dX3_become_5 rfl ?_
  refine V_istore_n (L' := [_, _, _]) dX3_become_6 (by decide) rfl rfl ?_
  have loop : ∀ (m i : Nat) (x : Int32) (mj : MI), i + m = s → x.toInt = (i : Int) → Off (offR a) mi mj → (mj a 3).toInt = (i : Int) → (∀ j, j < i → mj (a + 1) j = mi (b + 1) j ∧ mj (a + 2) j = mi (b + 2) j ∧ mj (a + 3) j = mi (b + 3) j) → V KX3_become 2 0 0 (fun r n' mi' mr' => none = r ∧ n = n' ∧ mr = mr' ∧ Off (offR a) mi mi' ∧ mi' a 3 = mi b 3 ∧ ∀ j, j < s → mi' (a + 1) j = mi (b + 1) j ∧ mi' (a + 2) j = mi (b + 2) j ∧ mi' (a + 3) j = mi (b + 3) j) 7 [some (.ref a), some (.ref b), some (.int x)] [] n mj mr := by
    intro m
    induction m with
    | zero =>
      intro i x mj him hx ho h3 hj
      have hof : ∀ i, (i = b ∨ i = b + 1 ∨ i = b + 2 ∨ i = b + 3) → ∀ k, mj i k = mi i k := fun i hi k => ho i k (by unfold offR; omega)
      refine V_iload_n dX3_become_7 rfl ?_
      refine V_aload_n dX3_become_8 rfl ?_
      refine V_geti 3 3 dX3_become_9 (Or.inl lkX3_21) rfl (sR hrb) ⟨by omega, by omega⟩ ?_
      refine V_icmp_ge (tgt := 44) dX3_become_12 (by decide) (fun c12 => ?_) (fun c12 => absurd ((le_nat (by rw [hof b (Or.inl rfl)]; exact hs) hx).mpr (by omega)) c12)
      refine V_ret dX3_become_44 rfl ?_
      have hi : i = s := by omega
      subst hi
      exact ⟨rfl, rfl, rfl, ho, by rw [← Int32.toInt_inj, h3, hs], hj⟩
    | succ m ih =>
      intro i x mj him hx ho h3 hj
      have hof : ∀ i, (i = b ∨ i = b + 1 ∨ i = b + 2 ∨ i = b + 3) → ∀ k, mj i k = mi i k := fun i hi k => ho i k (by unfold offR; omega)
      refine V_iload_n dX3_become_7 rfl ?_
      refine V_aload_n dX3_become_8 rfl ?_
      refine V_geti 3 3 dX3_become_9 (Or.inl lkX3_21) rfl (sR hrb) ⟨by omega, by omega⟩ ?_
      refine V_icmp_ge (tgt := 44) dX3_become_12 (by decide) (fun c12 => absurd ((le_nat (by rw [hof b (Or.inl rfl)]; exact hs) hx).mp c12) (by omega)) (fun c12 => ?_)
      refine V_aload_n dX3_become_15 rfl ?_
      refine V_aload_n dX3_become_16 rfl ?_
      refine V_getr (b := (b + 1)) 3 0 dX3_become_17 (Or.inl lkX3_9) rfl (sR hrb) ⟨by omega, by omega⟩ (hR _ _ _ (rR hrb (k := 0) (by omega))) ?_
      refine V_iload_n dX3_become_20 rfl ?_
      refine V_iald (len := len) i dX3_become_21 (sRa hrb (k := 0) (by omega)) ⟨by omega, by omega⟩ hx (by omega) ?_
      refine V_aload_n dX3_become_22 rfl ?_
      refine V_getr (b := (b + 2)) 3 1 dX3_become_23 (Or.inl lkX3_15) rfl (sR hrb) ⟨by omega, by omega⟩ (hR _ _ _ (rR hrb (k := 1) (by omega))) ?_
      refine V_iload_n dX3_become_26 rfl ?_
      refine V_iald (len := len) i dX3_become_27 (sRa hrb (k := 1) (by omega)) ⟨by omega, by omega⟩ hx (by omega) ?_
      refine V_aload_n dX3_become_28 rfl ?_
      refine V_getr (b := (b + 3)) 3 2 dX3_become_29 (Or.inl lkX3_18) rfl (sR hrb) ⟨by omega, by omega⟩ (hR _ _ _ (rR hrb (k := 2) (by omega))) ?_
      refine V_iload_n dX3_become_32 rfl ?_
      refine V_iald (len := len) i dX3_become_33 (sRa hrb (k := 2) (by omega)) ⟨by omega, by omega⟩ hx (by omega) ?_
      refine V_callV (ci := 3) (qX3_add _ _ _ hR hn _ _ hr i h3 (by omega) hlen _ _ _) dX3_become_34 mlX3_29 mtX3_add ivX3_add rfl (sR hr) ⟨by omega, by omega⟩ (by decide) rfl rfl (by decide) (Nat.le_of_ble_eq_true rfl) rfl rfl ?_
      rintro _ _ _ _ ⟨rfl, rfl, rfl, rfl⟩
      simp only [if_pos (show i < len by omega)]
      refine V_pop dX3_become_37 rfl ?_
      refine V_iinc (v := _ + (1)) (L' := [_, _, _]) dX3_become_38 (by decide) rfl rfl rfl rfl ?_
      refine V_goto (tgt := 7) dX3_become_41 (by decide) ?_
      refine ih (i + 1) _ _ (by omega) (ix_add hx (by decide) (by omega)) ?_ ?_ ?_
      · intro c k hck
        have h9 := ho c k hck
        unfold offR at hck
        simp only [up2]
        repeat rw [if_neg (by omega)]
        exact h9
      · rw [up2_s]
        exact ix_add h3 (by decide) (by omega)
      · intro j hji
        have e1 := hof (b + 1) (by omega)
        have e2 := hof (b + 2) (by omega)
        have e3 := hof (b + 3) (by omega)
        by_cases e : j = i
        · subst e
          simp [up2, e1, e2, e3]
        · have h9 := hj j (by omega)
          simp [up2, e, h9]
  exact loop s 0 _ _ (by omega) (by decide) (Off.up' (by unfold offR; omega)) (by rw [up2_s]; decide) (fun j hj => absurd hj (by omega))
set_option maxRecDepth 4000 in
theorem qX6_pourOut (n : Nat) (mi : MI) (mr : MR) (hR : RF mr) (hn : 186 ≤ n) (w : Nat) (hw : isW w) (x y : Int32) (p v : Nat) (hx : x.toInt = (p : Int)) (hp : p < 6) (hy : y.toInt = (v : Int)) (hv : v < 5) : Ct KX6_pourOut 1 0 0 [.ref w, .int x, .int y] n mi mr (eqQ (some (.int (if mi (w + 3) v = 0 then 0 else 1))) n (if mi (w + 3) v = 0 then mi else up2 (up2 mi (w + 3) v (mi (w + 3) v - 1)) (w + 18 + 2 * p) 5 y) mr) := by
  refine Ct.of2 [some (.ref w), some (.int x), some (.int y)] (by decide +kernel) (Nat.le_of_ble_eq_true rfl) rfl ?_
  have hwl := hw.le
  refine V_aload_n dX6_pourOut_0 rfl ?_
  refine V_getr (b := (w + 3)) 6 8 dX6_pourOut_1 (Or.inl lkX6_25) rfl (sW hw (o := 0) (by omega)) ⟨by omega, by omega⟩ (hR _ _ _ (rW hw (o := 0) (k := 8) (by omega) (by omega) rfl)) ?_
  refine V_iload_n dX6_pourOut_4 rfl ?_
  refine V_iald (len := 5) v dX6_pourOut_5 (sW hw (o := 3) (by omega)) ⟨by omega, by omega⟩ hy (by omega) ?_
  refine V_if_ne (tgt := 11) dX6_pourOut_6 (by decide) (fun c6 => ?_) (fun c6 => ?_)
  · refine V_aload_n dX6_pourOut_11 rfl ?_
    refine V_getr (b := (w + 3)) 6 8 dX6_pourOut_12 (Or.inl lkX6_25) rfl (sW hw (o := 0) (by omega)) ⟨by omega, by omega⟩ (hR _ _ _ (rW hw (o := 0) (k := 8) (by omega) (by omega) rfl)) ?_
    refine V_iload_n dX6_pourOut_15 rfl ?_
    refine V_dup2 dX6_pourOut_16 rfl rfl ?_
    refine V_iald (len := 5) v dX6_pourOut_17 (sW hw (o := 3) (by omega)) ⟨by omega, by omega⟩ hy (by omega) ?_
    refine V_iconst (v := 1) dX6_pourOut_18 rfl ?_
    refine V_isub dX6_pourOut_19 ?_
    refine V_iast (len := 5) v dX6_pourOut_20 (sW hw (o := 3) (by omega)) ⟨by omega, by omega⟩ hy (by omega) ?_
    refine V_aload_n dX6_pourOut_21 rfl ?_
    refine V_getr (b := (w + 1)) 6 6 dX6_pourOut_22 (Or.inl lkX6_17) rfl (sW hw (o := 0) (by omega)) ⟨by omega, by omega⟩ (hR _ _ _ (rW hw (o := 0) (k := 6) (by omega) (by omega) rfl)) ?_
    refine V_iload_n dX6_pourOut_25 rfl ?_
    refine V_aald (len := 6) (b := (w + 18 + 2 * p)) 5 p dX6_pourOut_26 (sW hw (o := 1) (by omega)) rfl ⟨by omega, by omega⟩ hx (by omega) (hR _ _ _ (rFolk hw (by omega))) ?_
    refine V_iload_n dX6_pourOut_27 rfl ?_
    refine V_puti 1 5 dX6_pourOut_28 lnX6_112 rfl rfl rfl (sP (pOf hw (by omega))) ⟨by omega, by omega⟩ ?_
    refine V_iconst (v := 1) dX6_pourOut_31 rfl ?_
    refine V_iret dX6_pourOut_32 rfl rfl ?_
    exact ⟨by rw [if_neg c6], rfl, by rw [if_neg c6], rfl⟩
  · refine V_iconst (v := 0) dX6_pourOut_9 rfl ?_
    refine V_iret dX6_pourOut_10 rfl rfl ?_
    exact ⟨by rw [if_pos c6], rfl, by rw [if_pos c6], rfl⟩
set_option maxRecDepth 4000 in
theorem qX6_growLight (n : Nat) (mi : MI) (mr : MR) (hR : RF mr) (hn : 186 ≤ n) (w : Nat) (hw : isW w) (N : Nat) (hN : (mi w 1).toInt = (N : Int)) (hN6 : N ≤ 6) (dn : Int32) : Ct KX6_growLight 1 0 0 [.ref w, .int dn] n mi mr (eqQ none n (dryTo (up2 mi w 0 (mi w 0 + dn)) w N) mr) := by
  refine Ct.of2 [some (.ref w), some (.int dn), none] (by decide +kernel) (Nat.le_of_ble_eq_true rfl) rfl ?_
  have hwl := hw.le
  refine V_aload_n dX6_growLight_0 rfl ?_
  refine V_dup dX6_growLight_1 rfl ?_
  refine V_geti 6 0 dX6_growLight_2 (Or.inl lkX6_9) rfl (sW hw (o := 0) (by omega)) ⟨by omega, by omega⟩ ?_
  refine V_iload_n dX6_growLight_5 rfl ?_
  refine V_iadd dX6_growLight_6 ?_
  refine V_puti 6 0 dX6_growLight_7 (Or.inl lkX6_9) rfl rfl rfl (sW hw (o := 0) (by omega)) ⟨by omega, by omega⟩ ?_
  refine V_iconst (v := 0) dX6_growLight_10 rfl ?_
  refine V_istore_n (L' := [_, _, _]) dX6_growLight_11 (by decide) rfl rfl ?_
  have loop : ∀ (m i : Nat) (x : Int32), i + m = N → x.toInt = (i : Int) → V KX6_growLight 1 0 0 (eqQ none n (dryTo (up2 mi w 0 (mi w 0 + dn)) w N) mr) 12 [some (.ref w), some (.int dn), some (.int x)] [] n (dryTo (up2 mi w 0 (mi w 0 + dn)) w i) mr := by
    intro m
    induction m with
    | zero =>
      intro i x him hx
      have hN2 : (dryTo (up2 mi w 0 (mi w 0 + dn)) w i w 1).toInt = (N : Int) := by
        rw [dryTo_off (fun p hp => by omega)]
        simp only [up2]
        rw [if_neg (by omega)]
        exact hN
      refine V_iload_n dX6_growLight_12 rfl ?_
      refine V_aload_n dX6_growLight_13 rfl ?_
      refine V_geti 6 1 dX6_growLight_14 (Or.inl lkX6_57) rfl (sW hw (o := 0) (by omega)) ⟨by omega, by omega⟩ ?_
      refine V_icmp_ge (tgt := 36) dX6_growLight_17 (by decide) (fun c17 => ?_) (fun c17 => absurd ((le_nat hN2 hx).mpr (by omega)) c17)
      refine V_ret dX6_growLight_36 rfl ?_
      have hi : i = N := by omega
      subst hi
      exact ⟨rfl, rfl, rfl, rfl⟩
    | succ m ih =>
      intro i x him hx
      have hN2 : (dryTo (up2 mi w 0 (mi w 0 + dn)) w i w 1).toInt = (N : Int) := by
        rw [dryTo_off (fun p hp => by omega)]
        simp only [up2]
        rw [if_neg (by omega)]
        exact hN
      refine V_iload_n dX6_growLight_12 rfl ?_
      refine V_aload_n dX6_growLight_13 rfl ?_
      refine V_geti 6 1 dX6_growLight_14 (Or.inl lkX6_57) rfl (sW hw (o := 0) (by omega)) ⟨by omega, by omega⟩ ?_
      refine V_icmp_ge (tgt := 36) dX6_growLight_17 (by decide) (fun c17 => absurd ((le_nat hN2 hx).mp c17) (by omega)) (fun c17 => ?_)
      refine V_aload_n dX6_growLight_20 rfl ?_
      refine V_getr (b := (w + 1)) 6 6 dX6_growLight_21 (Or.inl lkX6_17) rfl (sW hw (o := 0) (by omega)) ⟨by omega, by omega⟩ (hR _ _ _ (rW hw (o := 0) (k := 6) (by omega) (by omega) rfl)) ?_
      refine V_iload_n dX6_growLight_24 rfl ?_
      refine V_aald (len := 6) (b := (w + 18 + 2 * i)) 5 i dX6_growLight_25 (sW hw (o := 1) (by omega)) rfl ⟨by omega, by omega⟩ hx (by omega) (hR _ _ _ (rFolk hw (by omega))) ?_
      refine V_iconst (v := -1) dX6_growLight_26 rfl ?_
      refine V_puti 1 5 dX6_growLight_27 lnX6_112 rfl rfl rfl (sP (pOf hw (by omega))) ⟨by omega, by omega⟩ ?_
      refine V_iinc (v := _ + (1)) (L' := [_, _, _]) dX6_growLight_30 (by decide) rfl rfl rfl rfl ?_
      refine V_goto (tgt := 12) dX6_growLight_33 (by decide) ?_
      exact ih (i + 1) _ (by omega) (ix_add hx (by decide) (by omega))
  exact loop N 0 _ (by omega) (by decide)
set_option maxRecDepth 4000 in
theorem qX6_isAsSeen (n : Nat) (mi : MI) (mr : MR) (hR : RF mr) (hn : 186 ≤ n) (w : Nat) (hw : isW w) (S : Nat) (hS : (mi (w + 5) 3).toInt = (S : Int)) (hS5 : S ≤ 5) (x y born v : Int32) (p : Nat) (hx : x.toInt = (p : Int)) (hp : p < 6) (hy : okHas y) : Ct KX6_isAsSeen 3 0 0 [.ref w, .int x, .int y, .int born, .int v] n mi mr (eqQ (some (.int (b01 (asSeen mi (w + 5) S x (cAgeHad mi (w + 18 + 2 * p) (mi w 0) (cY mi w y) born v))))) n mi mr) := by
  refine Ct.of2 [some (.ref w), some (.int x), some (.int y), some (.int born), some (.int v), none, none] (by decide +kernel) (Nat.le_of_ble_eq_true rfl) rfl ?_
  have hwl := hw.le
  refine V_aload_n dX6_isAsSeen_0 rfl ?_
  refine V_getr (b := (w + 1)) 6 6 dX6_isAsSeen_1 (Or.inl lkX6_17) rfl (sW hw (o := 0) (by omega)) ⟨by omega, by omega⟩ (hR _ _ _ (rW hw (o := 0) (k := 6) (by omega) (by omega) rfl)) ?_
  refine V_iload_n dX6_isAsSeen_4 rfl ?_
  refine V_aald (len := 6) (b := (w + 18 + 2 * p)) 5 p dX6_isAsSeen_5 (sW hw (o := 1) (by omega)) rfl ⟨by omega, by omega⟩ hx (by omega) (hR _ _ _ (rFolk hw (by omega))) ?_
  refine V_aload_n dX6_isAsSeen_6 rfl ?_
  refine V_geti 6 0 dX6_isAsSeen_7 (Or.inl lkX6_9) rfl (sW hw (o := 0) (by omega)) ⟨by omega, by omega⟩ ?_
  refine V_iload_n dX6_isAsSeen_10 rfl ?_
  refine V_iconst (v := -1) dX6_isAsSeen_11 rfl ?_
  refine V_icmp_ne (tgt := 19) dX6_isAsSeen_12 (by decide) (fun c12 => ?_) (fun c12 => ?_)
  · obtain ⟨h, hy1, hy2⟩ := hy.resolve_left c12
    refine V_aload_n dX6_isAsSeen_19 rfl ?_
    refine V_getr (b := (w + 2)) 6 7 dX6_isAsSeen_20 (Or.inl lkX6_21) rfl (sW hw (o := 0) (by omega)) ⟨by omega, by omega⟩ (hR _ _ _ (rW hw (o := 0) (k := 7) (by omega) (by omega) rfl)) ?_
    refine V_iload_n dX6_isAsSeen_23 rfl ?_
    refine V_iald (len := 5) h dX6_isAsSeen_24 (sW hw (o := 2) (by omega)) ⟨by omega, by omega⟩ hy1 (by omega) ?_
    refine V_iload_n dX6_isAsSeen_25 rfl ?_
    refine V_iload dX6_isAsSeen_26 rfl ?_
    refine V_callV (ci := 1) (qX1_ageHad _ _ _ hR hn _ (pOf hw hp) _ _ _ _) dX6_isAsSeen_28 mlX6_140 mtX1_ageHad ivX1_ageHad rfl (sP (pOf hw (by omega))) ⟨by omega, by omega⟩ (by decide) rfl rfl (by decide) (Nat.le_of_ble_eq_true rfl) rfl rfl ?_
    rintro _ _ _ _ ⟨rfl, rfl, rfl, rfl⟩
    refine V_istore (L' := [_, _, _, _, _, _, _]) dX6_isAsSeen_31 (by decide) rfl rfl ?_
    refine V_iconst (v := 0) dX6_isAsSeen_33 rfl ?_
    refine V_istore (L' := [_, _, _, _, _, _, _]) dX6_isAsSeen_34 (by decide) rfl rfl ?_
    obtain ⟨age, hage⟩ : ∃ age, age = cAgeHad mi (w + 18 + 2 * p) (mi w 0) (cY mi w y) born v := ⟨_, rfl⟩
    first
      | rw [show (-1 : Int32) = cY mi w y from (if_pos c12).symm, ← hage]
      | rw [show mi (w + 2) h = cY mi w y from (by unfold cY; rw [if_neg c12, nat_of_toInt hy1]), ← hage]
    have loop : ∀ (m i : Nat) (z : Int32), i + m = S → z.toInt = (i : Int) → (∀ j, j < i → mi (w + 5 + 2) j = x → mi (w + 5 + 3) j = age) → V KX6_isAsSeen 3 0 0 (eqQ (some (.int (b01 (asSeen mi (w + 5) S x age)))) n mi mr) 36 [some (.ref w), some (.int x), some (.int y), some (.int born), some (.int v), some (.int age), some (.int z)] [] n mi mr := by
      intro m
      induction m with
      | zero =>
        intro i z him hz hj
        refine V_iload dX6_isAsSeen_36 rfl ?_
        refine V_aload_n dX6_isAsSeen_38 rfl ?_
        refine V_getr (b := (w + 5)) 6 10 dX6_isAsSeen_39 (Or.inl lkX6_37) rfl (sW hw (o := 0) (by omega)) ⟨by omega, by omega⟩ (hR _ _ _ (rW hw (o := 0) (k := 10) (by omega) (by omega) rfl)) ?_
        refine V_geti 3 3 dX6_isAsSeen_42 lnX6_121 rfl (sW hw (o := 5) (by omega)) ⟨by omega, by omega⟩ ?_
        refine V_icmp_ge (tgt := 85) dX6_isAsSeen_45 (by decide) (fun c45 => ?_) (fun c45 => absurd ((le_nat hS hz).mpr (by omega)) c45)
        refine V_iconst (v := 1) dX6_isAsSeen_85 rfl ?_
        refine V_iret dX6_isAsSeen_86 rfl rfl ?_
        have hi : i = S := by omega
        subst hi
        exact ⟨by rw [b01_t hj], rfl, rfl, rfl⟩
      | succ m ih =>
        intro i z him hz hj
        refine V_iload dX6_isAsSeen_36 rfl ?_
        refine V_aload_n dX6_isAsSeen_38 rfl ?_
        refine V_getr (b := (w + 5)) 6 10 dX6_isAsSeen_39 (Or.inl lkX6_37) rfl (sW hw (o := 0) (by omega)) ⟨by omega, by omega⟩ (hR _ _ _ (rW hw (o := 0) (k := 10) (by omega) (by omega) rfl)) ?_
        refine V_geti 3 3 dX6_isAsSeen_42 lnX6_121 rfl (sW hw (o := 5) (by omega)) ⟨by omega, by omega⟩ ?_
        refine V_icmp_ge (tgt := 85) dX6_isAsSeen_45 (by decide) (fun c45 => absurd ((le_nat hS hz).mp c45) (by omega)) (fun c45 => ?_)
        refine V_aload_n dX6_isAsSeen_48 rfl ?_
        refine V_getr (b := (w + 5)) 6 10 dX6_isAsSeen_49 (Or.inl lkX6_37) rfl (sW hw (o := 0) (by omega)) ⟨by omega, by omega⟩ (hR _ _ _ (rW hw (o := 0) (k := 10) (by omega) (by omega) rfl)) ?_
        refine V_getr (b := ((w + 5) + 2)) 3 1 dX6_isAsSeen_52 lnX6_130 rfl (sW hw (o := 5) (by omega)) ⟨by omega, by omega⟩ (hR _ _ _ (rR (Or.inl ⟨w, hw, rfl, rfl⟩) (k := 1) (by omega))) ?_
        refine V_iload dX6_isAsSeen_55 rfl ?_
        refine V_iald (len := 5) i dX6_isAsSeen_57 (sRa (Or.inl ⟨w, hw, rfl, rfl⟩) (k := 1) (by omega)) ⟨by omega, by omega⟩ hz (by omega) ?_
        refine V_iload_n dX6_isAsSeen_58 rfl ?_
        refine V_icmp_ne (tgt := 79) dX6_isAsSeen_59 (by decide) (fun c59 => ?_) (fun c59 => ?_)
        · refine V_iinc (v := _ + (1)) (L' := [_, _, _, _, _, _, _]) dX6_isAsSeen_79 (by decide) rfl rfl rfl rfl ?_
          refine V_goto (tgt := 36) dX6_isAsSeen_82 (by decide) ?_
          refine ih (i + 1) _ (by omega) (ix_add hz (by decide) (by omega)) (fun j hj1 hj2 => ?_)
          by_cases e : j = i
          · subst e
            first | exact absurd hj2 c59 | exact c74
          · exact hj j (by omega) hj2
        · refine V_aload_n dX6_isAsSeen_62 rfl ?_
          refine V_getr (b := (w + 5)) 6 10 dX6_isAsSeen_63 (Or.inl lkX6_37) rfl (sW hw (o := 0) (by omega)) ⟨by omega, by omega⟩ (hR _ _ _ (rW hw (o := 0) (k := 10) (by omega) (by omega) rfl)) ?_
          refine V_getr (b := ((w + 5) + 3)) 3 2 dX6_isAsSeen_66 lnX6_133 rfl (sW hw (o := 5) (by omega)) ⟨by omega, by omega⟩ (hR _ _ _ (rR (Or.inl ⟨w, hw, rfl, rfl⟩) (k := 2) (by omega))) ?_
          refine V_iload dX6_isAsSeen_69 rfl ?_
          refine V_iald (len := 5) i dX6_isAsSeen_71 (sRa (Or.inl ⟨w, hw, rfl, rfl⟩) (k := 2) (by omega)) ⟨by omega, by omega⟩ hz (by omega) ?_
          refine V_iload dX6_isAsSeen_72 rfl ?_
          refine V_icmp_eq (tgt := 79) dX6_isAsSeen_74 (by decide) (fun c74 => ?_) (fun c74 => ?_)
          · refine V_iinc (v := _ + (1)) (L' := [_, _, _, _, _, _, _]) dX6_isAsSeen_79 (by decide) rfl rfl rfl rfl ?_
            refine V_goto (tgt := 36) dX6_isAsSeen_82 (by decide) ?_
            refine ih (i + 1) _ (by omega) (ix_add hz (by decide) (by omega)) (fun j hj1 hj2 => ?_)
            by_cases e : j = i
            · subst e
              first | exact absurd hj2 c59 | exact c74
            · exact hj j (by omega) hj2
          · refine V_iconst (v := 0) dX6_isAsSeen_77 rfl ?_
            refine V_iret dX6_isAsSeen_78 rfl rfl ?_
            exact ⟨by rw [b01_f (fun h => c74 (h i (by omega) c59))], rfl, rfl, rfl⟩
    exact loop S 0 _ (by omega) rfl (fun j hj => absurd hj (by omega))
  · refine V_iconst (v := -1) dX6_isAsSeen_15 rfl ?_
    refine V_goto (tgt := 25) dX6_isAsSeen_16 (by decide) ?_
    refine V_iload_n dX6_isAsSeen_25 rfl ?_
    refine V_iload dX6_isAsSeen_26 rfl ?_
    refine V_callV (ci := 1) (qX1_ageHad _ _ _ hR hn _ (pOf hw hp) _ _ _ _) dX6_isAsSeen_28 mlX6_140 mtX1_ageHad ivX1_ageHad rfl (sP (pOf hw (by omega))) ⟨by omega, by omega⟩ (by decide) rfl rfl (by decide) (Nat.le_of_ble_eq_true rfl) rfl rfl ?_
    rintro _ _ _ _ ⟨rfl, rfl, rfl, rfl⟩
    refine V_istore (L' := [_, _, _, _, _, _, _]) dX6_isAsSeen_31 (by decide) rfl rfl ?_
    refine V_iconst (v := 0) dX6_isAsSeen_33 rfl ?_
    refine V_istore (L' := [_, _, _, _, _, _, _]) dX6_isAsSeen_34 (by decide) rfl rfl ?_
    obtain ⟨age, hage⟩ : ∃ age, age = cAgeHad mi (w + 18 + 2 * p) (mi w 0) (cY mi w y) born v := ⟨_, rfl⟩
    first
      | rw [show (-1 : Int32) = cY mi w y from (if_pos c12).symm, ← hage]
      | rw [show mi (w + 2) h = cY mi w y from (by unfold cY; rw [if_neg c12, nat_of_toInt hy1]), ← hage]
    have loop : ∀ (m i : Nat) (z : Int32), i + m = S → z.toInt = (i : Int) → (∀ j, j < i → mi (w + 5 + 2) j = x → mi (w + 5 + 3) j = age) → V KX6_isAsSeen 3 0 0 (eqQ (some (.int (b01 (asSeen mi (w + 5) S x age)))) n mi mr) 36 [some (.ref w), some (.int x), some (.int y), some (.int born), some (.int v), some (.int age), some (.int z)] [] n mi mr := by
      intro m
      induction m with
      | zero =>
        intro i z him hz hj
        refine V_iload dX6_isAsSeen_36 rfl ?_
        refine V_aload_n dX6_isAsSeen_38 rfl ?_
        refine V_getr (b := (w + 5)) 6 10 dX6_isAsSeen_39 (Or.inl lkX6_37) rfl (sW hw (o := 0) (by omega)) ⟨by omega, by omega⟩ (hR _ _ _ (rW hw (o := 0) (k := 10) (by omega) (by omega) rfl)) ?_
        refine V_geti 3 3 dX6_isAsSeen_42 lnX6_121 rfl (sW hw (o := 5) (by omega)) ⟨by omega, by omega⟩ ?_
        refine V_icmp_ge (tgt := 85) dX6_isAsSeen_45 (by decide) (fun c45 => ?_) (fun c45 => absurd ((le_nat hS hz).mpr (by omega)) c45)
        refine V_iconst (v := 1) dX6_isAsSeen_85 rfl ?_
        refine V_iret dX6_isAsSeen_86 rfl rfl ?_
        have hi : i = S := by omega
        subst hi
        exact ⟨by rw [b01_t hj], rfl, rfl, rfl⟩
      | succ m ih =>
        intro i z him hz hj
        refine V_iload dX6_isAsSeen_36 rfl ?_
        refine V_aload_n dX6_isAsSeen_38 rfl ?_
        refine V_getr (b := (w + 5)) 6 10 dX6_isAsSeen_39 (Or.inl lkX6_37) rfl (sW hw (o := 0) (by omega)) ⟨by omega, by omega⟩ (hR _ _ _ (rW hw (o := 0) (k := 10) (by omega) (by omega) rfl)) ?_
        refine V_geti 3 3 dX6_isAsSeen_42 lnX6_121 rfl (sW hw (o := 5) (by omega)) ⟨by omega, by omega⟩ ?_
        refine V_icmp_ge (tgt := 85) dX6_isAsSeen_45 (by decide) (fun c45 => absurd ((le_nat hS hz).mp c45) (by omega)) (fun c45 => ?_)
        refine V_aload_n dX6_isAsSeen_48 rfl ?_
        refine V_getr (b := (w + 5)) 6 10 dX6_isAsSeen_49 (Or.inl lkX6_37) rfl (sW hw (o := 0) (by omega)) ⟨by omega, by omega⟩ (hR _ _ _ (rW hw (o := 0) (k := 10) (by omega) (by omega) rfl)) ?_
        refine V_getr (b := ((w + 5) + 2)) 3 1 dX6_isAsSeen_52 lnX6_130 rfl (sW hw (o := 5) (by omega)) ⟨by omega, by omega⟩ (hR _ _ _ (rR (Or.inl ⟨w, hw, rfl, rfl⟩) (k := 1) (by omega))) ?_
        refine V_iload dX6_isAsSeen_55 rfl ?_
        refine V_iald (len := 5) i dX6_isAsSeen_57 (sRa (Or.inl ⟨w, hw, rfl, rfl⟩) (k := 1) (by omega)) ⟨by omega, by omega⟩ hz (by omega) ?_
        refine V_iload_n dX6_isAsSeen_58 rfl ?_
        refine V_icmp_ne (tgt := 79) dX6_isAsSeen_59 (by decide) (fun c59 => ?_) (fun c59 => ?_)
        · refine V_iinc (v := _ + (1)) (L' := [_, _, _, _, _, _, _]) dX6_isAsSeen_79 (by decide) rfl rfl rfl rfl ?_
          refine V_goto (tgt := 36) dX6_isAsSeen_82 (by decide) ?_
          refine ih (i + 1) _ (by omega) (ix_add hz (by decide) (by omega)) (fun j hj1 hj2 => ?_)
          by_cases e : j = i
          · subst e
            first | exact absurd hj2 c59 | exact c74
          · exact hj j (by omega) hj2
        · refine V_aload_n dX6_isAsSeen_62 rfl ?_
          refine V_getr (b := (w + 5)) 6 10 dX6_isAsSeen_63 (Or.inl lkX6_37) rfl (sW hw (o := 0) (by omega)) ⟨by omega, by omega⟩ (hR _ _ _ (rW hw (o := 0) (k := 10) (by omega) (by omega) rfl)) ?_
          refine V_getr (b := ((w + 5) + 3)) 3 2 dX6_isAsSeen_66 lnX6_133 rfl (sW hw (o := 5) (by omega)) ⟨by omega, by omega⟩ (hR _ _ _ (rR (Or.inl ⟨w, hw, rfl, rfl⟩) (k := 2) (by omega))) ?_
          refine V_iload dX6_isAsSeen_69 rfl ?_
          refine V_iald (len := 5) i dX6_isAsSeen_71 (sRa (Or.inl ⟨w, hw, rfl, rfl⟩) (k := 2) (by omega)) ⟨by omega, by omega⟩ hz (by omega) ?_
          refine V_iload dX6_isAsSeen_72 rfl ?_
          refine V_icmp_eq (tgt := 79) dX6_isAsSeen_74 (by decide) (fun c74 => ?_) (fun c74 => ?_)
          · refine V_iinc (v := _ + (1)) (L' := [_, _, _, _, _, _, _]) dX6_isAsSeen_79 (by decide) rfl rfl rfl rfl ?_
            refine V_goto (tgt := 36) dX6_isAsSeen_82 (by decide) ?_
            refine ih (i + 1) _ (by omega) (ix_add hz (by decide) (by omega)) (fun j hj1 hj2 => ?_)
            by_cases e : j = i
            · subst e
              first | exact absurd hj2 c59 | exact c74
            · exact hj j (by omega) hj2
          · refine V_iconst (v := 0) dX6_isAsSeen_77 rfl ?_
            refine V_iret dX6_isAsSeen_78 rfl rfl ?_
            exact ⟨by rw [b01_f (fun h => c74 (h i (by omega) c59))], rfl, rfl, rfl⟩
    exact loop S 0 _ (by omega) rfl (fun j hj => absurd hj (by omega))
