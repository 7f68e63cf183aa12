theorem ix_rem {x : Int32} {a d : Nat} (hx : x.toInt = (a : Int)) (hd : 0 < d) (hd2 : d < 2147483648) : (x - x / nI d * nI d).toInt = ((a % d : Nat) : Int) := by
  have ha : a < 2147483648 := by have := x.toInt_lt; omega
  rw [nI_of_toInt hx, pk_rem (by omega) hd (by omega), nI_toInt (by have := Nat.mod_lt a hd; omega)]
theorem cp2_step {mi : MI} {s d i : Nat} (h : s ≠ d) : up2 (cp2 mi s d i) d i (cp2 mi s d i s i) = cp2 mi s d (i + 1) := by
  funext a k
  have e : cp2 mi s d i s i = mi s i := by simp [cp2, h]
  rw [e]
  simp only [up2, cp2]
  by_cases h1 : a = d
  · subst h1
    by_cases h2 : k = i
    · subst h2; simp
    · by_cases h3 : k < i
      · simp [h2, h3, Nat.lt_succ_of_lt h3]
      · have h4 : ¬ k < i + 1 := by omega
        simp [h2, h3, h4]
  · simp [h1]
theorem cp2_0 {mi : MI} {s d : Nat} : cp2 mi s d 0 = mi := by funext a k; simp [cp2]
def sAgeIn (S : Nat → Int32) (p : Nat) (y : Int32) : Int32 := fAge (S (20 + p)) (S (26 + p)) (S (32 + p)) (S 0) y (fun k => S (44 + 4 * p + k))
def sAge (S : Nat → Int32) (p : Nat) (h : Int32) : Int32 := if h = -1 then S 0 - S (32 + p) else sAgeIn S p (S (68 + h.toNatClampNeg))
def sTells (S : Nat → Int32) (k : Nat) (none : Int32) : Int32 := if S 18 = -1 then none else S (k + (S 18).toNatClampNeg)
def sStage (S : Nat → Int32) (p : Nat) (age : Int32) : Int32 := fStage age (S (38 + p)) (sTells S 223 18) (sTells S 228 60)
abbrev sHereAt (S : Nat → Int32) (p : Nat) (age : Int32) : Prop := 0 ≤ age ∧ age ≤ S (38 + p)
def sHere (S : Nat → Int32) (p : Nat) : Bool := decide (sHereAt S p (sAge S p (S (1 + p))))
def okHold (S : Nat → Int32) : Prop := S 18 = -1 ∨ ∃ h : Nat, (S 18).toInt = (h : Int) ∧ h < 5
/-- a year that a vintage can have -/
def okYr (y : Int32) : Prop := ∃ k : Nat, y.toInt = (k : Int) ∧ k < 1000
set_option maxRecDepth 4000 in
theorem qX8_in (n : Nat) (mi : MI) (mr : MR) (v lo hi : Int32) : Ct KX8_in 1 0 0 [.int v, .int lo, .int hi] n mi mr (eqQ (some (.int (b01 (lo ≤ v ∧ v ≤ hi)))) n mi mr) := by
  refine Ct.of2 [some (.int v), some (.int lo), some (.int hi)] (by decide +kernel) (Nat.le_of_ble_eq_true rfl) rfl ?_
  refine V_iload_n dX8_in_0 rfl ?_
  refine V_iload_n dX8_in_1 rfl ?_
  refine V_icmp_lt (tgt := 14) dX8_in_2 (by decide) (fun c2 => ?_) (fun c2 => ?_)
  · refine V_iconst (v := 0) dX8_in_14 rfl ?_
    refine V_iret dX8_in_15 rfl rfl ?_
    refine ⟨?_, rfl, rfl, rfl⟩
    first | rw [b01_t (by simp only [Int32.lt_iff_toInt_lt, Int32.le_iff_toInt_le, ← Int32.toInt_inj, Int32.reduceToInt] at *; omega)] | rw [b01_f (by simp only [Int32.lt_iff_toInt_lt, Int32.le_iff_toInt_le, ← Int32.toInt_inj, Int32.reduceToInt] at *; omega)]
  · refine V_iload_n dX8_in_5 rfl ?_
    refine V_iload_n dX8_in_6 rfl ?_
    refine V_icmp_gt (tgt := 14) dX8_in_7 (by decide) (fun c7 => ?_) (fun c7 => ?_)
    · refine V_iconst (v := 0) dX8_in_14 rfl ?_
      refine V_iret dX8_in_15 rfl rfl ?_
      refine ⟨?_, rfl, rfl, rfl⟩
      first | rw [b01_t (by simp only [Int32.lt_iff_toInt_lt, Int32.le_iff_toInt_le, ← Int32.toInt_inj, Int32.reduceToInt] at *; omega)] | rw [b01_f (by simp only [Int32.lt_iff_toInt_lt, Int32.le_iff_toInt_le, ← Int32.toInt_inj, Int32.reduceToInt] at *; omega)]
    · refine V_iconst (v := 1) dX8_in_10 rfl ?_
      refine V_goto (tgt := 15) dX8_in_11 (by decide) ?_
      refine V_iret dX8_in_15 rfl rfl ?_
      refine ⟨?_, rfl, rfl, rfl⟩
      first | rw [b01_t (by simp only [Int32.lt_iff_toInt_lt, Int32.le_iff_toInt_le, ← Int32.toInt_inj, Int32.reduceToInt] at *; omega)] | rw [b01_f (by simp only [Int32.lt_iff_toInt_lt, Int32.le_iff_toInt_le, ← Int32.toInt_inj, Int32.reduceToInt] at *; omega)]
set_option maxRecDepth 4000 in
theorem qX8_isPerson (n : Nat) (mi : MI) (mr : MR) (hR : RF mr) (hn : 186 ≤ n) (p : Int32) : Ct KX8_isPerson 2 0 0 [.ref 173, .int p] n mi mr (eqQ (some (.int (b01 (0 ≤ p ∧ p ≤ mi 174 12 - 1)))) n mi mr) := by
  refine Ct.of2 [some (.ref 173), some (.int p)] (by decide +kernel) (Nat.le_of_ble_eq_true rfl) rfl ?_
  refine V_iload_n dX8_isPerson_0 rfl ?_
  refine V_iconst (v := 0) dX8_isPerson_1 rfl ?_
  refine V_aload_n dX8_isPerson_2 rfl ?_
  refine V_getr (b := 174) 8 1 dX8_isPerson_3 (Or.inl lkX8_9) rfl rfl ⟨by omega, by omega⟩ (hR _ _ _ rfl) ?_
  refine V_bipush (v := 12) dX8_isPerson_6 rfl ?_
  refine V_iald (len := 938) 12 dX8_isPerson_8 rfl ⟨by omega, by omega⟩ (by decide) (by omega) ?_
  refine V_iconst (v := 1) dX8_isPerson_9 rfl ?_
  refine V_isub dX8_isPerson_10 ?_
  refine V_callS (qX8_in _ _ _ _ _ _) dX8_isPerson_11 mlX8_53 mtX8_in smX8_in rfl rfl (by decide) (Nat.le_of_ble_eq_true rfl) rfl rfl ?_
  rintro _ _ _ _ ⟨rfl, rfl, rfl, rfl⟩
  refine V_iret dX8_isPerson_14 rfl b01_nar ?_
  exact ⟨rfl, rfl, rfl, rfl⟩
set_option maxRecDepth 4000 in
theorem qX8_isVintage (n : Nat) (mi : MI) (mr : MR) (hR : RF mr) (hn : 186 ≤ n) (p : Int32) : Ct KX8_isVintage 2 0 0 [.ref 173, .int p] n mi mr (eqQ (some (.int (b01 (0 ≤ p ∧ p ≤ mi 174 19 - 1)))) n mi mr) := by
  refine Ct.of2 [some (.ref 173), some (.int p)] (by decide +kernel) (Nat.le_of_ble_eq_true rfl) rfl ?_
  refine V_iload_n dX8_isVintage_0 rfl ?_
  refine V_iconst (v := 0) dX8_isVintage_1 rfl ?_
  refine V_aload_n dX8_isVintage_2 rfl ?_
  refine V_getr (b := 174) 8 1 dX8_isVintage_3 (Or.inl lkX8_9) rfl rfl ⟨by omega, by omega⟩ (hR _ _ _ rfl) ?_
  refine V_bipush (v := 19) dX8_isVintage_6 rfl ?_
  refine V_iald (len := 938) 19 dX8_isVintage_8 rfl ⟨by omega, by omega⟩ (by decide) (by omega) ?_
  refine V_iconst (v := 1) dX8_isVintage_9 rfl ?_
  refine V_isub dX8_isVintage_10 ?_
  refine V_callS (qX8_in _ _ _ _ _ _) dX8_isVintage_11 mlX8_53 mtX8_in smX8_in rfl rfl (by decide) (Nat.le_of_ble_eq_true rfl) rfl rfl ?_
  rintro _ _ _ _ ⟨rfl, rfl, rfl, rfl⟩
  refine V_iret dX8_isVintage_14 rfl b01_nar ?_
  exact ⟨rfl, rfl, rfl, rfl⟩
set_option maxRecDepth 4000 in
theorem qX8_isAge (n : Nat) (mi : MI) (mr : MR) (hR : RF mr) (hn : 186 ≤ n) (p : Int32) : Ct KX8_isAge 2 0 0 [.int p] n mi mr (eqQ (some (.int (b01 (-200 ≤ p ∧ p ≤ 400)))) n mi mr) := by
  refine Ct.of2 [some (.int p)] (by decide +kernel) (Nat.le_of_ble_eq_true rfl) rfl ?_
  refine V_iload_n dX8_isAge_0 rfl ?_
  refine V_sipush (v := -200) dX8_isAge_1 rfl ?_
  refine V_sipush (v := 400) dX8_isAge_4 rfl ?_
  refine V_callS (qX8_in _ _ _ _ _ _) dX8_isAge_7 mlX8_53 mtX8_in smX8_in rfl rfl (by decide) (Nat.le_of_ble_eq_true rfl) rfl rfl ?_
  rintro _ _ _ _ ⟨rfl, rfl, rfl, rfl⟩
  refine V_iret dX8_isAge_10 rfl b01_nar ?_
  exact ⟨rfl, rfl, rfl, rfl⟩
set_option maxRecDepth 4000 in
theorem qX8_apart (n : Nat) (mi : MI) (mr : MR) (hR : RF mr) (hn : 186 ≤ n) (x y : Int32) : Ct KX8_apart 1 0 0 [.int x, .int y] n mi mr (eqQ (some (.int (if x < y then y - x else x - y))) n mi mr) := by
  refine Ct.of2 [some (.int x), some (.int y)] (by decide +kernel) (Nat.le_of_ble_eq_true rfl) rfl ?_
  refine V_iload_n dX8_apart_0 rfl ?_
  refine V_iload_n dX8_apart_1 rfl ?_
  refine V_icmp_ge (tgt := 11) dX8_apart_2 (by decide) (fun c2 => ?_) (fun c2 => ?_)
  · refine V_iload_n dX8_apart_11 rfl ?_
    refine V_iload_n dX8_apart_12 rfl ?_
    refine V_isub dX8_apart_13 ?_
    refine V_iret dX8_apart_14 rfl rfl ?_
    refine ⟨?_, rfl, rfl, rfl⟩
    first | rw [if_pos (Int32.not_le.mp c2)] | rw [if_neg (Int32.not_lt.mpr c2)]
  · refine V_iload_n dX8_apart_5 rfl ?_
    refine V_iload_n dX8_apart_6 rfl ?_
    refine V_isub dX8_apart_7 ?_
    refine V_goto (tgt := 14) dX8_apart_8 (by decide) ?_
    refine V_iret dX8_apart_14 rfl rfl ?_
    refine ⟨?_, rfl, rfl, rfl⟩
    first | rw [if_pos (Int32.not_le.mp c2)] | rw [if_neg (Int32.not_lt.mpr c2)]
set_option maxRecDepth 4000 in
theorem qX8_orNone (n : Nat) (mi : MI) (mr : MR) (hR : RF mr) (hn : 186 ≤ n) (x : Int32) : Ct KX8_orNone 1 0 0 [.int x] n mi mr (eqQ (some (.int (if x = -1 then -5 else x))) n mi mr) := by
  refine Ct.of2 [some (.int x)] (by decide +kernel) (Nat.le_of_ble_eq_true rfl) rfl ?_
  refine V_iload_n dX8_orNone_0 rfl ?_
  refine V_iconst (v := -1) dX8_orNone_1 rfl ?_
  refine V_icmp_ne (tgt := 10) dX8_orNone_2 (by decide) (fun c2 => ?_) (fun c2 => ?_)
  · refine V_iload_n dX8_orNone_10 rfl ?_
    refine V_iret dX8_orNone_11 rfl rfl ?_
    refine ⟨?_, rfl, rfl, rfl⟩
    first | rw [if_pos c2] | rw [if_neg c2]
  · refine V_bipush (v := -5) dX8_orNone_5 rfl ?_
    refine V_goto (tgt := 11) dX8_orNone_7 (by decide) ?_
    refine V_iret dX8_orNone_11 rfl rfl ?_
    refine ⟨?_, rfl, rfl, rfl⟩
    first | rw [if_pos c2] | rw [if_neg c2]
set_option maxRecDepth 4000 in
theorem qX8_keeps (n : Nat) (mi : MI) (mr : MR) (hR : RF mr) (hn : 186 ≤ n)  : Ct KX8_keeps 1 0 0 [.ref 173] n mi mr (eqQ none n (cp2 mi 174 176 12) mr) := by
  refine Ct.of2 [some (.ref 173), none] (by decide +kernel) (Nat.le_of_ble_eq_true rfl) rfl ?_
  refine V_iconst (v := 0) dX8_keeps_0 rfl ?_
  refine V_istore_n (L' := [_, _]) dX8_keeps_1 (by decide) rfl rfl ?_
  have loop : ∀ (m i : Nat) (x : Int32), i + m = 12 → x.toInt = (i : Int) → V KX8_keeps 1 0 0 (eqQ none n (cp2 mi 174 176 12) mr) 2 [some (.ref 173), some (.int x)] [] n (cp2 mi 174 176 i) mr := by
    intro m
    induction m with
    | zero =>
      intro i x him hx
      refine V_iload_n dX8_keeps_2 rfl ?_
      refine V_bipush (v := 12) dX8_keeps_3 rfl ?_
      refine V_icmp_ge (tgt := 26) dX8_keeps_5 (by decide) (fun c5 => ?_) (fun c5 => absurd ((le_nat (x := 12) (a := 12) rfl hx).mpr (by omega)) c5)
      refine V_ret dX8_keeps_26 rfl ?_
      have hi : i = 12 := by omega
      subst hi
      exact ⟨rfl, rfl, rfl, rfl⟩
    | succ m ih =>
      intro i x him hx
      refine V_iload_n dX8_keeps_2 rfl ?_
      refine V_bipush (v := 12) dX8_keeps_3 rfl ?_
      refine V_icmp_ge (tgt := 26) dX8_keeps_5 (by decide) (fun c5 => absurd ((le_nat (x := 12) (a := 12) rfl hx).mp c5) (by omega)) (fun c5 => ?_)
      refine V_aload_n dX8_keeps_8 rfl ?_
      refine V_getr (b := 176) 8 3 dX8_keeps_9 (Or.inl lkX8_18) rfl rfl ⟨by omega, by omega⟩ (hR _ _ _ rfl) ?_
      refine V_iload_n dX8_keeps_12 rfl ?_
      refine V_aload_n dX8_keeps_13 rfl ?_
      refine V_getr (b := 174) 8 1 dX8_keeps_14 (Or.inl lkX8_9) rfl rfl ⟨by omega, by omega⟩ (hR _ _ _ rfl) ?_
      refine V_iload_n dX8_keeps_17 rfl ?_
      refine V_iald (len := 938) i dX8_keeps_18 rfl ⟨by omega, by omega⟩ hx (by omega) ?_
      refine V_iast (len := 12) i dX8_keeps_19 rfl ⟨by omega, by omega⟩ hx (by omega) ?_
      refine V_iinc (v := _ + (1)) (L' := [_, _]) dX8_keeps_20 (by decide) rfl rfl rfl rfl ?_
      refine V_goto (tgt := 2) dX8_keeps_23 (by decide) ?_
      refine V.eq (ih (i + 1) _ (by omega) (ix_add hx (by decide) (by omega))) rfl rfl rfl rfl ?_ rfl
      exact (cp2_step (by decide)).symm
  refine V.eq (loop 12 0 _ (by omega) (by decide)) rfl rfl rfl rfl ?_ rfl
  exact cp2_0
set_option maxRecDepth 4000 in
theorem qX8_goesBack (n : Nat) (mi : MI) (mr : MR) (hR : RF mr) (hn : 186 ≤ n)  : Ct KX8_goesBack 1 0 0 [.ref 173] n mi mr (eqQ none n (cp2 mi 176 174 12) mr) := by
  refine Ct.of2 [some (.ref 173), none] (by decide +kernel) (Nat.le_of_ble_eq_true rfl) rfl ?_
  refine V_iconst (v := 0) dX8_goesBack_0 rfl ?_
  refine V_istore_n (L' := [_, _]) dX8_goesBack_1 (by decide) rfl rfl ?_
  have loop : ∀ (m i : Nat) (x : Int32), i + m = 12 → x.toInt = (i : Int) → V KX8_goesBack 1 0 0 (eqQ none n (cp2 mi 176 174 12) mr) 2 [some (.ref 173), some (.int x)] [] n (cp2 mi 176 174 i) mr := by
    intro m
    induction m with
    | zero =>
      intro i x him hx
      refine V_iload_n dX8_goesBack_2 rfl ?_
      refine V_bipush (v := 12) dX8_goesBack_3 rfl ?_
      refine V_icmp_ge (tgt := 26) dX8_goesBack_5 (by decide) (fun c5 => ?_) (fun c5 => absurd ((le_nat (x := 12) (a := 12) rfl hx).mpr (by omega)) c5)
      refine V_ret dX8_goesBack_26 rfl ?_
      have hi : i = 12 := by omega
      subst hi
      exact ⟨rfl, rfl, rfl, rfl⟩
    | succ m ih =>
      intro i x him hx
      refine V_iload_n dX8_goesBack_2 rfl ?_
      refine V_bipush (v := 12) dX8_goesBack_3 rfl ?_
      refine V_icmp_ge (tgt := 26) dX8_goesBack_5 (by decide) (fun c5 => absurd ((le_nat (x := 12) (a := 12) rfl hx).mp c5) (by omega)) (fun c5 => ?_)
      refine V_aload_n dX8_goesBack_8 rfl ?_
      refine V_getr (b := 174) 8 1 dX8_goesBack_9 (Or.inl lkX8_9) rfl rfl ⟨by omega, by omega⟩ (hR _ _ _ rfl) ?_
      refine V_iload_n dX8_goesBack_12 rfl ?_
      refine V_aload_n dX8_goesBack_13 rfl ?_
      refine V_getr (b := 176) 8 3 dX8_goesBack_14 (Or.inl lkX8_18) rfl rfl ⟨by omega, by omega⟩ (hR _ _ _ rfl) ?_
      refine V_iload_n dX8_goesBack_17 rfl ?_
      refine V_iald (len := 12) i dX8_goesBack_18 rfl ⟨by omega, by omega⟩ hx (by omega) ?_
      refine V_iast (len := 938) i dX8_goesBack_19 rfl ⟨by omega, by omega⟩ hx (by omega) ?_
      refine V_iinc (v := _ + (1)) (L' := [_, _]) dX8_goesBack_20 (by decide) rfl rfl rfl rfl ?_
      refine V_goto (tgt := 2) dX8_goesBack_23 (by decide) ?_
      refine V.eq (ih (i + 1) _ (by omega) (ix_add hx (by decide) (by omega))) rfl rfl rfl rfl ?_ rfl
      exact (cp2_step (by decide)).symm
  refine V.eq (loop 12 0 _ (by omega) (by decide)) rfl rfl rfl rfl ?_ rfl
  exact cp2_0
set_option maxRecDepth 4000 in
theorem qX8_tellsOf (n : Nat) (mi : MI) (mr : MR) (hR : RF mr) (hn : 186 ≤ n) (x y : Int32) (k : Nat) (hx : x.toInt = (k : Int)) (hk : k < 900) (ho : okHold (mi 174)) : Ct KX8_tellsOf 1 0 0 [.ref 173, .int x, .int y] n mi mr (eqQ (some (.int (sTells (mi 174) k y))) n mi mr) := by
  refine Ct.of2 [some (.ref 173), some (.int x), some (.int y)] (by decide +kernel) (Nat.le_of_ble_eq_true rfl) rfl ?_
  refine V_aload_n dX8_tellsOf_0 rfl ?_
  refine V_getr (b := 174) 8 1 dX8_tellsOf_1 (Or.inl lkX8_9) rfl rfl ⟨by omega, by omega⟩ (hR _ _ _ rfl) ?_
  refine V_bipush (v := 18) dX8_tellsOf_4 rfl ?_
  refine V_iald (len := 938) 18 dX8_tellsOf_6 rfl ⟨by omega, by omega⟩ (by decide) (by omega) ?_
  refine V_iconst (v := -1) dX8_tellsOf_7 rfl ?_
  refine V_icmp_ne (tgt := 15) dX8_tellsOf_8 (by decide) (fun c8 => ?_) (fun c8 => ?_)
  · obtain ⟨h, ho1, ho2⟩ := ho.resolve_left c8
    refine V_aload_n dX8_tellsOf_15 rfl ?_
    refine V_getr (b := 174) 8 1 dX8_tellsOf_16 (Or.inl lkX8_9) rfl rfl ⟨by omega, by omega⟩ (hR _ _ _ rfl) ?_
    refine V_iload_n dX8_tellsOf_19 rfl ?_
    refine V_aload_n dX8_tellsOf_20 rfl ?_
    refine V_getr (b := 174) 8 1 dX8_tellsOf_21 (Or.inl lkX8_9) rfl rfl ⟨by omega, by omega⟩ (hR _ _ _ rfl) ?_
    refine V_bipush (v := 18) dX8_tellsOf_24 rfl ?_
    refine V_iald (len := 938) 18 dX8_tellsOf_26 rfl ⟨by omega, by omega⟩ (by decide) (by omega) ?_
    refine V_iadd dX8_tellsOf_27 ?_
    refine V_iald (len := 938) (k + h) dX8_tellsOf_28 rfl ⟨by omega, by omega⟩ (ix_add hx ho1 (by omega)) (by omega) ?_
    refine V_iret dX8_tellsOf_29 rfl rfl ?_
    refine ⟨?_, rfl, rfl, rfl⟩
    unfold sTells
    first | rw [if_pos c8] | rw [if_neg c8, nat_of_toInt ho1]
  · refine V_iload_n dX8_tellsOf_11 rfl ?_
    refine V_goto (tgt := 29) dX8_tellsOf_12 (by decide) ?_
    refine V_iret dX8_tellsOf_29 rfl rfl ?_
    refine ⟨?_, rfl, rfl, rfl⟩
    unfold sTells
    first | rw [if_pos c8] | rw [if_neg c8, nat_of_toInt ho1]
set_option maxRecDepth 4000 in
theorem qX8_ageIn (n : Nat) (mi : MI) (mr : MR) (hR : RF mr) (hn : 186 ≤ n) (x y : Int32) (p : Nat) (hx : x.toInt = (p : Int)) (hp : p < 6) (yn : Nat) (hy : y.toInt = (yn : Int)) : Ct KX8_ageIn 1 0 0 [.ref 173, .int x, .int y] n mi mr (eqQ (some (.int (sAgeIn (mi 174) p y))) n mi mr) := by
  refine Ct.of2 [some (.ref 173), some (.int x), some (.int y), none, none, none, none] (by decide +kernel) (Nat.le_of_ble_eq_true rfl) rfl ?_
  refine V_aload_n dX8_ageIn_0 rfl ?_
  refine V_getr (b := 174) 8 1 dX8_ageIn_1 (Or.inl lkX8_9) rfl rfl ⟨by omega, by omega⟩ (hR _ _ _ rfl) ?_
  refine V_bipush (v := 32) dX8_ageIn_4 rfl ?_
  refine V_iload_n dX8_ageIn_6 rfl ?_
  refine V_iadd dX8_ageIn_7 ?_
  refine V_iald (len := 938) (32 + p) dX8_ageIn_8 rfl ⟨by omega, by omega⟩ (ix_add (by decide) hx (by omega)) (by omega) ?_
  refine V_istore_n (L' := [_, _, _, _, _, _, _]) dX8_ageIn_9 (by decide) rfl rfl ?_
  refine V_aload_n dX8_ageIn_10 rfl ?_
  refine V_getr (b := 174) 8 1 dX8_ageIn_11 (Or.inl lkX8_9) rfl rfl ⟨by omega, by omega⟩ (hR _ _ _ rfl) ?_
  refine V_bipush (v := 26) dX8_ageIn_14 rfl ?_
  refine V_iload_n dX8_ageIn_16 rfl ?_
  refine V_iadd dX8_ageIn_17 ?_
  refine V_iald (len := 938) (26 + p) dX8_ageIn_18 rfl ⟨by omega, by omega⟩ (ix_add (by decide) hx (by omega)) (by omega) ?_
  refine V_istore (L' := [_, _, _, _, _, _, _]) dX8_ageIn_19 (by decide) rfl rfl ?_
  refine V_aload_n dX8_ageIn_21 rfl ?_
  refine V_getr (b := 174) 8 1 dX8_ageIn_22 (Or.inl lkX8_9) rfl rfl ⟨by omega, by omega⟩ (hR _ _ _ rfl) ?_
  refine V_iconst (v := 0) dX8_ageIn_25 rfl ?_
  refine V_iald (len := 938) 0 dX8_ageIn_26 rfl ⟨by omega, by omega⟩ (by decide) (by omega) ?_
  refine V_iload_n dX8_ageIn_27 rfl ?_
  refine V_isub dX8_ageIn_28 ?_
  refine V_istore (L' := [_, _, _, _, _, _, _]) dX8_ageIn_29 (by decide) rfl rfl ?_
  refine V_iload dX8_ageIn_31 rfl ?_
  refine V_iload_n dX8_ageIn_33 rfl ?_
  refine V_aload_n dX8_ageIn_34 rfl ?_
  refine V_getr (b := 174) 8 1 dX8_ageIn_35 (Or.inl lkX8_9) rfl rfl ⟨by omega, by omega⟩ (hR _ _ _ rfl) ?_
  refine V_iconst (v := 0) dX8_ageIn_38 rfl ?_
  refine V_iald (len := 938) 0 dX8_ageIn_39 rfl ⟨by omega, by omega⟩ (by decide) (by omega) ?_
  refine V_isub dX8_ageIn_40 ?_
  refine V_iconst (v := 2) dX8_ageIn_41 rfl ?_
  refine V_idiv dX8_ageIn_42 (by decide) ?_
  refine V_iadd dX8_ageIn_43 ?_
  refine V_istore (L' := [_, _, _, _, _, _, _]) dX8_ageIn_44 (by decide) rfl rfl ?_
  refine V_aload_n dX8_ageIn_46 rfl ?_
  refine V_getr (b := 174) 8 1 dX8_ageIn_47 (Or.inl lkX8_9) rfl rfl ⟨by omega, by omega⟩ (hR _ _ _ rfl) ?_
  refine V_bipush (v := 20) dX8_ageIn_50 rfl ?_
  refine V_iload_n dX8_ageIn_52 rfl ?_
  refine V_iadd dX8_ageIn_53 ?_
  refine V_iald (len := 938) (20 + p) dX8_ageIn_54 rfl ⟨by omega, by omega⟩ (ix_add (by decide) hx (by omega)) (by omega) ?_
  by_cases k1 : mi 174 (20 + p) = 1
  · refine V_tableIn (off := 37) (tgt := 92) dX8_ageIn_55 (by rw [k1]; decide) (by rw [k1]; decide) (by rw [k1]; rfl) (by decide) ?_
    refine V_iload_n dX8_ageIn_92 rfl ?_
    refine V_iload_n dX8_ageIn_93 rfl ?_
    refine V_isub dX8_ageIn_94 ?_
    refine V_iload dX8_ageIn_95 rfl ?_
    refine V_isub dX8_ageIn_97 ?_
    refine V_iret dX8_ageIn_98 rfl rfl ?_
    refine ⟨?_, rfl, rfl, rfl⟩
    have hyn : y.toInt.toNat % 4 = yn % 4 := by rw [hy]; rfl
    clear hR
    simp only [sAgeIn, fAge]
    first
      | rw [if_neg k1, if_neg k2, if_neg k3, if_neg k4, if_pos k5, if_pos (Int32.not_le.mp c119)]
      | rw [if_neg k1, if_neg k2, if_neg k3, if_neg k4, if_pos k5, if_neg (Int32.not_lt.mpr c119)]
      | simp [*]
  by_cases k2 : mi 174 (20 + p) = 2
  · refine V_tableIn (off := 44) (tgt := 99) dX8_ageIn_55 (by rw [k2]; decide) (by rw [k2]; decide) (by rw [k2]; rfl) (by decide) ?_
    refine V_iload dX8_ageIn_99 rfl ?_
    refine V_iret dX8_ageIn_101 rfl rfl ?_
    refine ⟨?_, rfl, rfl, rfl⟩
    have hyn : y.toInt.toNat % 4 = yn % 4 := by rw [hy]; rfl
    clear hR
    simp only [sAgeIn, fAge]
    first
      | rw [if_neg k1, if_neg k2, if_neg k3, if_neg k4, if_pos k5, if_pos (Int32.not_le.mp c119)]
      | rw [if_neg k1, if_neg k2, if_neg k3, if_neg k4, if_pos k5, if_neg (Int32.not_lt.mpr c119)]
      | simp [*]
  by_cases k3 : mi 174 (20 + p) = 3
  · refine V_tableIn (off := 47) (tgt := 102) dX8_ageIn_55 (by rw [k3]; decide) (by rw [k3]; decide) (by rw [k3]; rfl) (by decide) ?_
    refine V_iload dX8_ageIn_102 rfl ?_
    refine V_iret dX8_ageIn_104 rfl rfl ?_
    refine ⟨?_, rfl, rfl, rfl⟩
    have hyn : y.toInt.toNat % 4 = yn % 4 := by rw [hy]; rfl
    clear hR
    simp only [sAgeIn, fAge]
    first
      | rw [if_neg k1, if_neg k2, if_neg k3, if_neg k4, if_pos k5, if_pos (Int32.not_le.mp c119)]
      | rw [if_neg k1, if_neg k2, if_neg k3, if_neg k4, if_pos k5, if_neg (Int32.not_lt.mpr c119)]
      | simp [*]
  by_cases k4 : mi 174 (20 + p) = 4
  · refine V_tableIn (off := 50) (tgt := 105) dX8_ageIn_55 (by rw [k4]; decide) (by rw [k4]; decide) (by rw [k4]; rfl) (by decide) ?_
    refine V_iload_n dX8_ageIn_105 rfl ?_
    refine V_iload_n dX8_ageIn_106 rfl ?_
    refine V_isub dX8_ageIn_107 ?_
    refine V_iload dX8_ageIn_108 rfl ?_
    refine V_isub dX8_ageIn_110 ?_
    refine V_iload dX8_ageIn_111 rfl ?_
    refine V_isub dX8_ageIn_113 ?_
    refine V_iret dX8_ageIn_114 rfl rfl ?_
    refine ⟨?_, rfl, rfl, rfl⟩
    have hyn : y.toInt.toNat % 4 = yn % 4 := by rw [hy]; rfl
    clear hR
    simp only [sAgeIn, fAge]
    first
      | rw [if_neg k1, if_neg k2, if_neg k3, if_neg k4, if_pos k5, if_pos (Int32.not_le.mp c119)]
      | rw [if_neg k1, if_neg k2, if_neg k3, if_neg k4, if_pos k5, if_neg (Int32.not_lt.mpr c119)]
      | simp [*]
  by_cases k5 : mi 174 (20 + p) = 5
  · refine V_tableIn (off := 60) (tgt := 115) dX8_ageIn_55 (by rw [k5]; decide) (by rw [k5]; decide) (by rw [k5]; rfl) (by decide) ?_
    refine V_iload dX8_ageIn_115 rfl ?_
    refine V_iload dX8_ageIn_117 rfl ?_
    refine V_icmp_ge (tgt := 127) dX8_ageIn_119 (by decide) (fun c119 => ?_) (fun c119 => ?_)
    · refine V_iload dX8_ageIn_127 rfl ?_
      refine V_iret dX8_ageIn_129 rfl rfl ?_
      refine ⟨?_, rfl, rfl, rfl⟩
      have hyn : y.toInt.toNat % 4 = yn % 4 := by rw [hy]; rfl
      clear hR
      simp only [sAgeIn, fAge]
      first
        | rw [if_neg k1, if_neg k2, if_neg k3, if_neg k4, if_pos k5, if_pos (Int32.not_le.mp c119)]
        | rw [if_neg k1, if_neg k2, if_neg k3, if_neg k4, if_pos k5, if_neg (Int32.not_lt.mpr c119)]
        | simp [*]
    · refine V_iload dX8_ageIn_122 rfl ?_
      refine V_goto (tgt := 129) dX8_ageIn_124 (by decide) ?_
      refine V_iret dX8_ageIn_129 rfl rfl ?_
      refine ⟨?_, rfl, rfl, rfl⟩
      have hyn : y.toInt.toNat % 4 = yn % 4 := by rw [hy]; rfl
      clear hR
      simp only [sAgeIn, fAge]
      first
        | rw [if_neg k1, if_neg k2, if_neg k3, if_neg k4, if_pos k5, if_pos (Int32.not_le.mp c119)]
        | rw [if_neg k1, if_neg k2, if_neg k3, if_neg k4, if_pos k5, if_neg (Int32.not_lt.mpr c119)]
        | simp [*]
  by_cases k6 : mi 174 (20 + p) = 6
  · refine V_tableIn (off := 75) (tgt := 130) dX8_ageIn_55 (by rw [k6]; decide) (by rw [k6]; decide) (by rw [k6]; rfl) (by decide) ?_
    refine V_iload dX8_ageIn_130 rfl ?_
    refine V_aload_n dX8_ageIn_132 rfl ?_
    refine V_getr (b := 174) 8 1 dX8_ageIn_133 (Or.inl lkX8_9) rfl rfl ⟨by omega, by omega⟩ (hR _ _ _ rfl) ?_
    refine V_bipush (v := 44) dX8_ageIn_136 rfl ?_
    refine V_iconst (v := 4) dX8_ageIn_138 rfl ?_
    refine V_iload_n dX8_ageIn_139 rfl ?_
    refine V_imul dX8_ageIn_140 ?_
    refine V_iadd dX8_ageIn_141 ?_
    refine V_iload_n dX8_ageIn_142 rfl ?_
    refine V_iconst (v := 4) dX8_ageIn_143 rfl ?_
    refine V_irem dX8_ageIn_144 (by decide) ?_
    refine V_iadd dX8_ageIn_145 ?_
    refine V_iald (len := 938) ((44 + (4 * p)) + (yn % 4)) dX8_ageIn_146 rfl ⟨by omega, by omega⟩ (ix_add (ix_add (by decide) (ix_mul (by decide) hx (by omega)) (by omega)) (ix_rem (d := 4) hy (by decide) (by decide)) (by omega)) (by omega) ?_
    refine V_isub dX8_ageIn_147 ?_
    refine V_iret dX8_ageIn_148 rfl rfl ?_
    refine ⟨?_, rfl, rfl, rfl⟩
    have hyn : y.toInt.toNat % 4 = yn % 4 := by rw [hy]; rfl
    clear hR
    simp only [sAgeIn, fAge]
    first
      | rw [if_neg k1, if_neg k2, if_neg k3, if_neg k4, if_pos k5, if_pos (Int32.not_le.mp c119)]
      | rw [if_neg k1, if_neg k2, if_neg k3, if_neg k4, if_pos k5, if_neg (Int32.not_lt.mpr c119)]
      | simp [*]
  refine V_tableOut (tgt := 149) dX8_ageIn_55 (by simp only [← Int32.toInt_inj, Int32.reduceToInt] at *; omega) (by decide) ?_
  refine V_iload_n dX8_ageIn_149 rfl ?_
  refine V_iload_n dX8_ageIn_150 rfl ?_
  refine V_isub dX8_ageIn_151 ?_
  refine V_iret dX8_ageIn_152 rfl rfl ?_
  refine ⟨?_, rfl, rfl, rfl⟩
  have hyn : y.toInt.toNat % 4 = yn % 4 := by rw [hy]; rfl
  clear hR
  simp only [sAgeIn, fAge]
  first
    | rw [if_neg k1, if_neg k2, if_neg k3, if_neg k4, if_pos k5, if_pos (Int32.not_le.mp c119)]
    | rw [if_neg k1, if_neg k2, if_neg k3, if_neg k4, if_pos k5, if_neg (Int32.not_lt.mpr c119)]
    | simp [*]
set_option maxRecDepth 4000 in
theorem qX8_ageBy (n : Nat) (mi : MI) (mr : MR) (hR : RF mr) (hn : 186 ≤ n) (x y : Int32) (p : Nat) (hx : x.toInt = (p : Int)) (hp : p < 6) (hy : okHas y) (hyr : ∀ k, k < 5 → okYr (mi 174 (68 + k))) : Ct KX8_ageBy 2 0 0 [.ref 173, .int x, .int y] n mi mr (eqQ (some (.int (sAge (mi 174) p y))) n mi mr) := by
  refine Ct.of2 [some (.ref 173), some (.int x), some (.int y)] (by decide +kernel) (Nat.le_of_ble_eq_true rfl) rfl ?_
  refine V_iload_n dX8_ageBy_0 rfl ?_
  refine V_iconst (v := -1) dX8_ageBy_1 rfl ?_
  refine V_icmp_ne (tgt := 24) dX8_ageBy_2 (by decide) (fun c2 => ?_) (fun c2 => ?_)
  · obtain ⟨h, hy1, hy2⟩ := hy.resolve_left c2
    obtain ⟨yn, hyn, hyn2⟩ := hyr h hy2
    refine V_aload_n dX8_ageBy_24 rfl ?_
    refine V_iload_n dX8_ageBy_25 rfl ?_
    refine V_aload_n dX8_ageBy_26 rfl ?_
    refine V_getr (b := 174) 8 1 dX8_ageBy_27 (Or.inl lkX8_9) rfl rfl ⟨by omega, by omega⟩ (hR _ _ _ rfl) ?_
    refine V_bipush (v := 68) dX8_ageBy_30 rfl ?_
    refine V_iload_n dX8_ageBy_32 rfl ?_
    refine V_iadd dX8_ageBy_33 ?_
    refine V_iald (len := 938) (68 + h) dX8_ageBy_34 rfl ⟨by omega, by omega⟩ (ix_add (by decide) hy1 (by omega)) (by omega) ?_
    refine V_callV (ci := 8) (qX8_ageIn _ _ _ hR hn _ _ _ hx hp yn hyn) dX8_ageBy_35 mlX8_135 mtX8_ageIn ivX8_ageIn rfl rfl ⟨by omega, by omega⟩ (by decide) rfl rfl (by decide) (Nat.le_of_ble_eq_true rfl) rfl rfl ?_
    rintro _ _ _ _ ⟨rfl, rfl, rfl, rfl⟩
    refine V_iret dX8_ageBy_38 rfl rfl ?_
    refine ⟨?_, rfl, rfl, rfl⟩
    unfold sAge
    first | rw [if_pos c2] | rw [if_neg c2, nat_of_toInt hy1]
  · refine V_aload_n dX8_ageBy_5 rfl ?_
    refine V_getr (b := 174) 8 1 dX8_ageBy_6 (Or.inl lkX8_9) rfl rfl ⟨by omega, by omega⟩ (hR _ _ _ rfl) ?_
    refine V_iconst (v := 0) dX8_ageBy_9 rfl ?_
    refine V_iald (len := 938) 0 dX8_ageBy_10 rfl ⟨by omega, by omega⟩ (by decide) (by omega) ?_
    refine V_aload_n dX8_ageBy_11 rfl ?_
    refine V_getr (b := 174) 8 1 dX8_ageBy_12 (Or.inl lkX8_9) rfl rfl ⟨by omega, by omega⟩ (hR _ _ _ rfl) ?_
    refine V_bipush (v := 32) dX8_ageBy_15 rfl ?_
    refine V_iload_n dX8_ageBy_17 rfl ?_
    refine V_iadd dX8_ageBy_18 ?_
    refine V_iald (len := 938) (32 + p) dX8_ageBy_19 rfl ⟨by omega, by omega⟩ (ix_add (by decide) hx (by omega)) (by omega) ?_
    refine V_isub dX8_ageBy_20 ?_
    refine V_goto (tgt := 38) dX8_ageBy_21 (by decide) ?_
    refine V_iret dX8_ageBy_38 rfl rfl ?_
    refine ⟨?_, rfl, rfl, rfl⟩
    unfold sAge
    first | rw [if_pos c2] | rw [if_neg c2, nat_of_toInt hy1]
set_option maxRecDepth 4000 in
theorem qX8_isHereAt (n : Nat) (mi : MI) (mr : MR) (hR : RF mr) (hn : 186 ≤ n) (x age : Int32) (p : Nat) (hx : x.toInt = (p : Int)) (hp : p < 6) : Ct KX8_isHereAt 2 0 0 [.ref 173, .int x, .int age] n mi mr (eqQ (some (.int (b01 (sHereAt (mi 174) p age)))) n mi mr) := by
  refine Ct.of2 [some (.ref 173), some (.int x), some (.int age)] (by decide +kernel) (Nat.le_of_ble_eq_true rfl) rfl ?_
  refine V_iload_n dX8_isHereAt_0 rfl ?_
  refine V_iconst (v := 0) dX8_isHereAt_1 rfl ?_
  refine V_aload_n dX8_isHereAt_2 rfl ?_
  refine V_getr (b := 174) 8 1 dX8_isHereAt_3 (Or.inl lkX8_9) rfl rfl ⟨by omega, by omega⟩ (hR _ _ _ rfl) ?_
  refine V_bipush (v := 38) dX8_isHereAt_6 rfl ?_
  refine V_iload_n dX8_isHereAt_8 rfl ?_
  refine V_iadd dX8_isHereAt_9 ?_
  refine V_iald (len := 938) (38 + p) dX8_isHereAt_10 rfl ⟨by omega, by omega⟩ (ix_add (by decide) hx (by omega)) (by omega) ?_
  refine V_callS (qX8_in _ _ _ _ _ _) dX8_isHereAt_11 mlX8_53 mtX8_in smX8_in rfl rfl (by decide) (Nat.le_of_ble_eq_true rfl) rfl rfl ?_
  rintro _ _ _ _ ⟨rfl, rfl, rfl, rfl⟩
  refine V_iret dX8_isHereAt_14 rfl b01_nar ?_
  exact ⟨rfl, rfl, rfl, rfl⟩
set_option maxRecDepth 4000 in
theorem qX8_stageAt (n : Nat) (mi : MI) (mr : MR) (hR : RF mr) (hn : 186 ≤ n) (x age : Int32) (p : Nat) (hx : x.toInt = (p : Int)) (hp : p < 6) (ho : okHold (mi 174)) : Ct KX8_stageAt 3 0 0 [.ref 173, .int x, .int age] n mi mr (eqQ (some (.int (sStage (mi 174) p age))) n mi mr) := by
  refine Ct.of2 [some (.ref 173), some (.int x), some (.int age)] (by decide +kernel) (Nat.le_of_ble_eq_true rfl) rfl ?_
  refine V_aload_n dX8_stageAt_0 rfl ?_
  refine V_iload_n dX8_stageAt_1 rfl ?_
  refine V_iload_n dX8_stageAt_2 rfl ?_
  refine V_callV (ci := 8) (qX8_isHereAt _ _ _ hR hn _ _ _ hx hp) dX8_stageAt_3 mlX8_139 mtX8_isHereAt ivX8_isHereAt rfl rfl ⟨by omega, by omega⟩ (by decide) rfl rfl (by decide) (Nat.le_of_ble_eq_true rfl) rfl rfl ?_
  rintro _ _ _ _ ⟨rfl, rfl, rfl, rfl⟩
  refine V_if_ne (tgt := 13) dX8_stageAt_6 (by decide) (fun c6 => ?_) (fun c6 => ?_)
  · refine V_iload_n dX8_stageAt_13 rfl ?_
    refine V_aload_n dX8_stageAt_14 rfl ?_
    refine V_sipush (v := 223) dX8_stageAt_15 rfl ?_
    refine V_bipush (v := 18) dX8_stageAt_18 rfl ?_
    refine V_callV (ci := 8) (qX8_tellsOf _ _ _ hR hn _ _ 223 rfl (by decide) ho) dX8_stageAt_20 mlX8_143 mtX8_tellsOf ivX8_tellsOf rfl rfl ⟨by omega, by omega⟩ (by decide) rfl rfl (by decide) (Nat.le_of_ble_eq_true rfl) rfl rfl ?_
    rintro _ _ _ _ ⟨rfl, rfl, rfl, rfl⟩
    refine V_icmp_ge (tgt := 30) dX8_stageAt_23 (by decide) (fun c23 => ?_) (fun c23 => ?_)
    · refine V_iload_n dX8_stageAt_30 rfl ?_
      refine V_aload_n dX8_stageAt_31 rfl ?_
      refine V_sipush (v := 228) dX8_stageAt_32 rfl ?_
      refine V_bipush (v := 60) dX8_stageAt_35 rfl ?_
      refine V_callV (ci := 8) (qX8_tellsOf _ _ _ hR hn _ _ 228 rfl (by decide) ho) dX8_stageAt_37 mlX8_143 mtX8_tellsOf ivX8_tellsOf rfl rfl ⟨by omega, by omega⟩ (by decide) rfl rfl (by decide) (Nat.le_of_ble_eq_true rfl) rfl rfl ?_
      rintro _ _ _ _ ⟨rfl, rfl, rfl, rfl⟩
      refine V_icmp_lt (tgt := 47) dX8_stageAt_40 (by decide) (fun c40 => ?_) (fun c40 => ?_)
      · refine V_iconst (v := 2) dX8_stageAt_47 rfl ?_
        refine V_iret dX8_stageAt_48 rfl rfl ?_
        simp only [b01_0, b01_n, sHereAt] at c6
        refine ⟨?_, rfl, rfl, rfl⟩
        simp only [sStage, fStage]
        repeat' split
        all_goals first | rfl | (exfalso; simp only [Int32.lt_iff_toInt_lt, Int32.le_iff_toInt_le, ← Int32.toInt_inj, Int32.reduceToInt] at *; omega)
      · refine V_iconst (v := 3) dX8_stageAt_43 rfl ?_
        refine V_goto (tgt := 48) dX8_stageAt_44 (by decide) ?_
        refine V_iret dX8_stageAt_48 rfl rfl ?_
        simp only [b01_0, b01_n, sHereAt] at c6
        refine ⟨?_, rfl, rfl, rfl⟩
        simp only [sStage, fStage]
        repeat' split
        all_goals first | rfl | (exfalso; simp only [Int32.lt_iff_toInt_lt, Int32.le_iff_toInt_le, ← Int32.toInt_inj, Int32.reduceToInt] at *; omega)
    · refine V_iconst (v := 1) dX8_stageAt_26 rfl ?_
      refine V_goto (tgt := 48) dX8_stageAt_27 (by decide) ?_
      refine V_iret dX8_stageAt_48 rfl rfl ?_
      simp only [b01_0, b01_n, sHereAt] at c6
      refine ⟨?_, rfl, rfl, rfl⟩
      simp only [sStage, fStage]
      repeat' split
      all_goals first | rfl | (exfalso; simp only [Int32.lt_iff_toInt_lt, Int32.le_iff_toInt_le, ← Int32.toInt_inj, Int32.reduceToInt] at *; omega)
  · refine V_iconst (v := 0) dX8_stageAt_9 rfl ?_
    refine V_goto (tgt := 48) dX8_stageAt_10 (by decide) ?_
    refine V_iret dX8_stageAt_48 rfl rfl ?_
    simp only [b01_0, b01_n, sHereAt] at c6
    refine ⟨?_, rfl, rfl, rfl⟩
    simp only [sStage, fStage]
    repeat' split
    all_goals first | rfl | (exfalso; simp only [Int32.lt_iff_toInt_lt, Int32.le_iff_toInt_le, ← Int32.toInt_inj, Int32.reduceToInt] at *; omega)
/-- what a person has is none or a vintage, and the vintages' years are years -/
def okS (S : Nat → Int32) (N : Nat) : Prop := okHold S ∧ (∀ k, k < 5 → okYr (S (68 + k))) ∧ ∀ p, p < N → okHas (S (1 + p))
set_option maxRecDepth 4000 in
theorem qX8_ageOf (n : Nat) (mi : MI) (mr : MR) (hR : RF mr) (hn : 186 ≤ n) (N : Nat) (hN6 : N ≤ 6) (ho : okS (mi 174) N) (x : Int32) (p : Nat) (hx : x.toInt = (p : Int)) (hp : p < N) : Ct KX8_ageOf 3 0 0 [.ref 173, .int x] n mi mr (eqQ (some (.int (sAge (mi 174) p (mi 174 (1 + p))))) n mi mr) := by
  refine Ct.of2 [some (.ref 173), some (.int x)] (by decide +kernel) (Nat.le_of_ble_eq_true rfl) rfl ?_
  refine V_aload_n dX8_ageOf_0 rfl ?_
  refine V_iload_n dX8_ageOf_1 rfl ?_
  refine V_aload_n dX8_ageOf_2 rfl ?_
  refine V_getr (b := 174) 8 1 dX8_ageOf_3 (Or.inl lkX8_9) rfl rfl ⟨by omega, by omega⟩ (hR _ _ _ rfl) ?_
  refine V_iconst (v := 1) dX8_ageOf_6 rfl ?_
  refine V_iload_n dX8_ageOf_7 rfl ?_
  refine V_iadd dX8_ageOf_8 ?_
  refine V_iald (len := 938) (1 + p) dX8_ageOf_9 rfl ⟨by omega, by omega⟩ (ix_add (by decide) hx (by omega)) (by omega) ?_
  refine V_callV (ci := 8) (qX8_ageBy _ _ _ hR hn _ _ _ hx (by omega) (ho.2.2 p hp) ho.2.1) dX8_ageOf_10 mlX8_146 mtX8_ageBy ivX8_ageBy rfl rfl ⟨by omega, by omega⟩ (by decide) rfl rfl (by decide) (Nat.le_of_ble_eq_true rfl) rfl rfl ?_
  rintro _ _ _ _ ⟨rfl, rfl, rfl, rfl⟩
  refine V_iret dX8_ageOf_13 rfl rfl ?_
  exact ⟨rfl, rfl, rfl, rfl⟩
set_option maxRecDepth 4000 in
theorem qX8_isHere (n : Nat) (mi : MI) (mr : MR) (hR : RF mr) (hn : 186 ≤ n) (N : Nat) (hN6 : N ≤ 6) (ho : okS (mi 174) N) (x : Int32) (p : Nat) (hx : x.toInt = (p : Int)) (hp : p < N) : Ct KX8_isHere 4 0 0 [.ref 173, .int x] n mi mr (eqQ (some (.int (b01 (sHereAt (mi 174) p (sAge (mi 174) p (mi 174 (1 + p))))))) n mi mr) := by
  refine Ct.of2 [some (.ref 173), some (.int x)] (by decide +kernel) (Nat.le_of_ble_eq_true rfl) rfl ?_
  refine V_aload_n dX8_isHere_0 rfl ?_
  refine V_iload_n dX8_isHere_1 rfl ?_
  refine V_aload_n dX8_isHere_2 rfl ?_
  refine V_iload_n dX8_isHere_3 rfl ?_
  refine V_callV (ci := 8) (qX8_ageOf _ _ _ hR hn N hN6 ho _ _ hx hp) dX8_isHere_4 mlX8_155 mtX8_ageOf ivX8_ageOf rfl rfl ⟨by omega, by omega⟩ (by decide) rfl rfl (by decide) (Nat.le_of_ble_eq_true rfl) rfl rfl ?_
  rintro _ _ _ _ ⟨rfl, rfl, rfl, rfl⟩
  refine V_callV (ci := 8) (qX8_isHereAt _ _ _ hR hn _ _ _ hx (by omega)) dX8_isHere_7 mlX8_139 mtX8_isHereAt ivX8_isHereAt rfl rfl ⟨by omega, by omega⟩ (by decide) rfl rfl (by decide) (Nat.le_of_ble_eq_true rfl) rfl rfl ?_
  rintro _ _ _ _ ⟨rfl, rfl, rfl, rfl⟩
  refine V_iret dX8_isHere_10 rfl b01_nar ?_
  exact ⟨rfl, rfl, rfl, rfl⟩
set_option maxRecDepth 4000 in
theorem qX8_whoIsHere (n : Nat) (mi : MI) (mr : MR) (hR : RF mr) (hn : 186 ≤ n) (N : Nat) (hN6 : N ≤ 6) (ho : okS (mi 174) N) (hN : (mi 174 12).toInt = (N : Int))  : Ct KX8_whoIsHere 5 0 0 [.ref 173] n mi mr (eqQ (some (.int (bitsTo (sHere (mi 174)) N))) n mi mr) := by
  refine Ct.of2 [some (.ref 173), none, none] (by decide +kernel) (Nat.le_of_ble_eq_true rfl) rfl ?_
  refine V_iconst (v := 0) dX8_whoIsHere_0 rfl ?_
  refine V_istore_n (L' := [_, _, _]) dX8_whoIsHere_1 (by decide) rfl rfl ?_
  refine V_iconst (v := 0) dX8_whoIsHere_2 rfl ?_
  refine V_istore_n (L' := [_, _, _]) dX8_whoIsHere_3 (by decide) rfl rfl ?_
  have loop : ∀ (m i : Nat) (acc x : Int32), i + m = N → x.toInt = (i : Int) → acc = bitsTo (sHere (mi 174)) i → V KX8_whoIsHere 5 0 0 (eqQ (some (.int (bitsTo (sHere (mi 174)) N))) n mi mr) 4 [some (.ref 173), some (.int acc), some (.int x)] [] n mi mr := by
    intro m
    induction m with
    | zero =>
      intro i acc x him hx ha
      refine V_iload_n dX8_whoIsHere_4 rfl ?_
      refine V_aload_n dX8_whoIsHere_5 rfl ?_
      refine V_getr (b := 174) 8 1 dX8_whoIsHere_6 (Or.inl lkX8_9) rfl rfl ⟨by omega, by omega⟩ (hR _ _ _ rfl) ?_
      refine V_bipush (v := 12) dX8_whoIsHere_9 rfl ?_
      refine V_iald (len := 938) 12 dX8_whoIsHere_11 rfl ⟨by omega, by omega⟩ (by decide) (by omega) ?_
      refine V_icmp_ge (tgt := 39) dX8_whoIsHere_12 (by decide) (fun c12 => ?_) (fun c12 => absurd ((le_nat hN hx).mpr (by omega)) c12)
      refine V_iload_n dX8_whoIsHere_39 rfl ?_
      refine V_iret dX8_whoIsHere_40 rfl rfl ?_
      have hi : i = N := by omega
      subst hi
      exact ⟨by rw [ha], rfl, rfl, rfl⟩
    | succ m ih =>
      intro i acc x him hx ha
      refine V_iload_n dX8_whoIsHere_4 rfl ?_
      refine V_aload_n dX8_whoIsHere_5 rfl ?_
      refine V_getr (b := 174) 8 1 dX8_whoIsHere_6 (Or.inl lkX8_9) rfl rfl ⟨by omega, by omega⟩ (hR _ _ _ rfl) ?_
      refine V_bipush (v := 12) dX8_whoIsHere_9 rfl ?_
      refine V_iald (len := 938) 12 dX8_whoIsHere_11 rfl ⟨by omega, by omega⟩ (by decide) (by omega) ?_
      refine V_icmp_ge (tgt := 39) dX8_whoIsHere_12 (by decide) (fun c12 => absurd ((le_nat hN hx).mp c12) (by omega)) (fun c12 => ?_)
      refine V_iload_n dX8_whoIsHere_15 rfl ?_
      refine V_aload_n dX8_whoIsHere_16 rfl ?_
      refine V_iload_n dX8_whoIsHere_17 rfl ?_
      refine V_callV (ci := 8) (qX8_isHere _ _ _ hR hn N hN6 ho _ _ hx (by omega)) dX8_whoIsHere_18 mlX8_159 mtX8_isHere ivX8_isHere rfl rfl ⟨by omega, by omega⟩ (by decide) rfl rfl (by decide) (Nat.le_of_ble_eq_true rfl) rfl rfl ?_
      rintro _ _ _ _ ⟨rfl, rfl, rfl, rfl⟩
      refine V_if_eq (tgt := 30) dX8_whoIsHere_21 (by decide) (fun c21 => ?_) (fun c21 => ?_)
      · refine V_iconst (v := 0) dX8_whoIsHere_30 rfl ?_
        refine V_ior dX8_whoIsHere_31 ?_
        refine V_istore_n (L' := [_, _, _]) dX8_whoIsHere_32 (by decide) rfl rfl ?_
        refine V_iinc (v := _ + (1)) (L' := [_, _, _]) dX8_whoIsHere_33 (by decide) rfl rfl rfl rfl ?_
        refine V_goto (tgt := 4) dX8_whoIsHere_36 (by decide) ?_
        have e3 : sHere (mi 174) i = decide (sHereAt (mi 174) i (sAge (mi 174) i (mi 174 (1 + i)))) := rfl
        simp only [b01_0, b01_n] at c21
        exact ih (i + 1) _ _ (by omega) (ix_add hx (by decide) (by omega)) (by
          rw [bitsTo, e3, ha]
          try rw [nI_of_toInt hx]
          simp [c21])
      · refine V_iconst (v := 1) dX8_whoIsHere_24 rfl ?_
        refine V_iload_n dX8_whoIsHere_25 rfl ?_
        refine V_ishl dX8_whoIsHere_26 ?_
        refine V_goto (tgt := 31) dX8_whoIsHere_27 (by decide) ?_
        refine V_ior dX8_whoIsHere_31 ?_
        refine V_istore_n (L' := [_, _, _]) dX8_whoIsHere_32 (by decide) rfl rfl ?_
        refine V_iinc (v := _ + (1)) (L' := [_, _, _]) dX8_whoIsHere_33 (by decide) rfl rfl rfl rfl ?_
        refine V_goto (tgt := 4) dX8_whoIsHere_36 (by decide) ?_
        have e3 : sHere (mi 174) i = decide (sHereAt (mi 174) i (sAge (mi 174) i (mi 174 (1 + i)))) := rfl
        simp only [b01_0, b01_n] at c21
        exact ih (i + 1) _ _ (by omega) (ix_add hx (by decide) (by omega)) (by
          rw [bitsTo, e3, ha]
          try rw [nI_of_toInt hx]
          simp [c21])
  exact loop N 0 _ _ (by omega) (by decide) rfl
def bitCnt (x : Int32) : Nat → Int32
  | 0 => 0
  | k + 1 => bitCnt x k + ((x >>> (nI k &&& 31)) &&& 1)
set_option maxRecDepth 4000 in
theorem qX8_countOf (n : Nat) (mi : MI) (mr : MR) (hR : RF mr) (hn : 186 ≤ n) (v : Int32) : Ct KX8_countOf 1 0 0 [.int v] n mi mr (eqQ (some (.int (bitCnt v 6))) n mi mr) := by
  refine Ct.of2 [some (.int v), none, none] (by decide +kernel) (Nat.le_of_ble_eq_true rfl) rfl ?_
  refine V_iconst (v := 0) dX8_countOf_0 rfl ?_
  refine V_istore_n (L' := [_, _, _]) dX8_countOf_1 (by decide) rfl rfl ?_
  refine V_iconst (v := 0) dX8_countOf_2 rfl ?_
  refine V_istore_n (L' := [_, _, _]) dX8_countOf_3 (by decide) rfl rfl ?_
  have loop : ∀ (m i : Nat) (acc x : Int32), i + m = 6 → x.toInt = (i : Int) → acc = bitCnt v i → V KX8_countOf 1 0 0 (eqQ (some (.int (bitCnt v 6))) n mi mr) 4 [some (.int v), some (.int acc), some (.int x)] [] n mi mr := by
    intro m
    induction m with
    | zero =>
      intro i acc x him hx ha
      refine V_iload_n dX8_countOf_4 rfl ?_
      refine V_bipush (v := 6) dX8_countOf_5 rfl ?_
      refine V_icmp_ge (tgt := 24) dX8_countOf_7 (by decide) (fun c7 => ?_) (fun c7 => absurd ((le_nat (x := 6) (a := 6) rfl hx).mpr (by omega)) c7)
      refine V_iload_n dX8_countOf_24 rfl ?_
      refine V_iret dX8_countOf_25 rfl rfl ?_
      have hi : i = 6 := by omega
      subst hi
      exact ⟨by rw [ha], rfl, rfl, rfl⟩
    | succ m ih =>
      intro i acc x him hx ha
      refine V_iload_n dX8_countOf_4 rfl ?_
      refine V_bipush (v := 6) dX8_countOf_5 rfl ?_
      refine V_icmp_ge (tgt := 24) dX8_countOf_7 (by decide) (fun c7 => absurd ((le_nat (x := 6) (a := 6) rfl hx).mp c7) (by omega)) (fun c7 => ?_)
      refine V_iload_n dX8_countOf_10 rfl ?_
      refine V_iload_n dX8_countOf_11 rfl ?_
      refine V_iload_n dX8_countOf_12 rfl ?_
      refine V_ishr dX8_countOf_13 ?_
      refine V_iconst (v := 1) dX8_countOf_14 rfl ?_
      refine V_iand dX8_countOf_15 ?_
      refine V_iadd dX8_countOf_16 ?_
      refine V_istore_n (L' := [_, _, _]) dX8_countOf_17 (by decide) rfl rfl ?_
      refine V_iinc (v := _ + (1)) (L' := [_, _, _]) dX8_countOf_18 (by decide) rfl rfl rfl rfl ?_
      refine V_goto (tgt := 4) dX8_countOf_21 (by decide) ?_
      exact ih (i + 1) _ _ (by omega) (ix_add hx (by decide) (by omega)) (by rw [bitCnt, ha, nI_of_toInt hx])
  exact loop 6 0 _ _ (by omega) (by decide) rfl
set_option maxRecDepth 4000 in
theorem qX8_allBottles (n : Nat) (mi : MI) (mr : MR) (hR : RF mr) (hn : 186 ≤ n) (Nv : Nat) (hNv : (mi 174 19).toInt = (Nv : Int)) (hNv5 : Nv ≤ 5)  : Ct KX8_allBottles 1 0 0 [.ref 173] n mi mr (eqQ (some (.int (sumTo (fun k => mi 174 (7 + k)) Nv))) n mi mr) := by
  refine Ct.of2 [some (.ref 173), none, none] (by decide +kernel) (Nat.le_of_ble_eq_true rfl) rfl ?_
  refine V_iconst (v := 0) dX8_allBottles_0 rfl ?_
  refine V_istore_n (L' := [_, _, _]) dX8_allBottles_1 (by decide) rfl rfl ?_
  refine V_iconst (v := 0) dX8_allBottles_2 rfl ?_
  refine V_istore_n (L' := [_, _, _]) dX8_allBottles_3 (by decide) rfl rfl ?_
  have loop : ∀ (m i : Nat) (acc x : Int32), i + m = Nv → x.toInt = (i : Int) → acc = sumTo (fun k => mi 174 (7 + k)) i → V KX8_allBottles 1 0 0 (eqQ (some (.int (sumTo (fun k => mi 174 (7 + k)) Nv))) n mi mr) 4 [some (.ref 173), some (.int acc), some (.int x)] [] n mi mr := by
    intro m
    induction m with
    | zero =>
      intro i acc x him hx ha
      refine V_iload_n dX8_allBottles_4 rfl ?_
      refine V_aload_n dX8_allBottles_5 rfl ?_
      refine V_getr (b := 174) 8 1 dX8_allBottles_6 (Or.inl lkX8_9) rfl rfl ⟨by omega, by omega⟩ (hR _ _ _ rfl) ?_
      refine V_bipush (v := 19) dX8_allBottles_9 rfl ?_
      refine V_iald (len := 938) 19 dX8_allBottles_11 rfl ⟨by omega, by omega⟩ (by decide) (by omega) ?_
      refine V_icmp_ge (tgt := 33) dX8_allBottles_12 (by decide) (fun c12 => ?_) (fun c12 => absurd ((le_nat hNv hx).mpr (by omega)) c12)
      refine V_iload_n dX8_allBottles_33 rfl ?_
      refine V_iret dX8_allBottles_34 rfl rfl ?_
      have hi : i = Nv := by omega
      subst hi
      exact ⟨by rw [ha], rfl, rfl, rfl⟩
    | succ m ih =>
      intro i acc x him hx ha
      refine V_iload_n dX8_allBottles_4 rfl ?_
      refine V_aload_n dX8_allBottles_5 rfl ?_
      refine V_getr (b := 174) 8 1 dX8_allBottles_6 (Or.inl lkX8_9) rfl rfl ⟨by omega, by omega⟩ (hR _ _ _ rfl) ?_
      refine V_bipush (v := 19) dX8_allBottles_9 rfl ?_
      refine V_iald (len := 938) 19 dX8_allBottles_11 rfl ⟨by omega, by omega⟩ (by decide) (by omega) ?_
      refine V_icmp_ge (tgt := 33) dX8_allBottles_12 (by decide) (fun c12 => absurd ((le_nat hNv hx).mp c12) (by omega)) (fun c12 => ?_)
      refine V_iload_n dX8_allBottles_15 rfl ?_
      refine V_aload_n dX8_allBottles_16 rfl ?_
      refine V_getr (b := 174) 8 1 dX8_allBottles_17 (Or.inl lkX8_9) rfl rfl ⟨by omega, by omega⟩ (hR _ _ _ rfl) ?_
      refine V_bipush (v := 7) dX8_allBottles_20 rfl ?_
      refine V_iload_n dX8_allBottles_22 rfl ?_
      refine V_iadd dX8_allBottles_23 ?_
      refine V_iald (len := 938) (7 + i) dX8_allBottles_24 rfl ⟨by omega, by omega⟩ (ix_add (by decide) hx (by omega)) (by omega) ?_
      refine V_iadd dX8_allBottles_25 ?_
      refine V_istore_n (L' := [_, _, _]) dX8_allBottles_26 (by decide) rfl rfl ?_
      refine V_iinc (v := _ + (1)) (L' := [_, _, _]) dX8_allBottles_27 (by decide) rfl rfl rfl rfl ?_
      refine V_goto (tgt := 4) dX8_allBottles_30 (by decide) ?_
      exact ih (i + 1) _ _ (by omega) (ix_add hx (by decide) (by omega)) (by rw [sumTo, ha])
  exact loop Nv 0 _ _ (by omega) (by decide) rfl
set_option maxRecDepth 4000 in
theorem qX8_newVintage (n : Nat) (mi : MI) (mr : MR) (hR : RF mr) (hn : 186 ≤ n) (Nv : Nat) (hNv : (mi 174 19).toInt = (Nv : Int)) (hNv5 : Nv ≤ 5) (hNv4 : Nv < 5) (y b : Int32) : Ct KX8_newVintage 1 0 0 [.ref 173, .int y, .int b] n mi mr (eqQ (some (.int (mi 174 19))) n (up2 (up2 (up2 mi 174 (68 + Nv) y) 174 (7 + Nv) b) 174 19 (mi 174 19 + 1)) mr) := by
  refine Ct.of2 [some (.ref 173), some (.int y), some (.int b), none] (by decide +kernel) (Nat.le_of_ble_eq_true rfl) rfl ?_
  refine V_aload_n dX8_newVintage_0 rfl ?_
  refine V_getr (b := 174) 8 1 dX8_newVintage_1 (Or.inl lkX8_9) rfl rfl ⟨by omega, by omega⟩ (hR _ _ _ rfl) ?_
  refine V_bipush (v := 19) dX8_newVintage_4 rfl ?_
  refine V_iald (len := 938) 19 dX8_newVintage_6 rfl ⟨by omega, by omega⟩ (by decide) (by omega) ?_
  refine V_istore_n (L' := [_, _, _, _]) dX8_newVintage_7 (by decide) rfl rfl ?_
  refine V_aload_n dX8_newVintage_8 rfl ?_
  refine V_getr (b := 174) 8 1 dX8_newVintage_9 (Or.inl lkX8_9) rfl rfl ⟨by omega, by omega⟩ (hR _ _ _ rfl) ?_
  refine V_bipush (v := 68) dX8_newVintage_12 rfl ?_
  refine V_iload_n dX8_newVintage_14 rfl ?_
  refine V_iadd dX8_newVintage_15 ?_
  refine V_iload_n dX8_newVintage_16 rfl ?_
  refine V_iast (len := 938) (68 + Nv) dX8_newVintage_17 rfl ⟨by omega, by omega⟩ (ix_add (by decide) hNv (by omega)) (by omega) ?_
  refine V_aload_n dX8_newVintage_18 rfl ?_
  refine V_getr (b := 174) 8 1 dX8_newVintage_19 (Or.inl lkX8_9) rfl rfl ⟨by omega, by omega⟩ (hR _ _ _ rfl) ?_
  refine V_bipush (v := 7) dX8_newVintage_22 rfl ?_
  refine V_iload_n dX8_newVintage_24 rfl ?_
  refine V_iadd dX8_newVintage_25 ?_
  refine V_iload_n dX8_newVintage_26 rfl ?_
  refine V_iast (len := 938) (7 + Nv) dX8_newVintage_27 rfl ⟨by omega, by omega⟩ (ix_add (by decide) hNv (by omega)) (by omega) ?_
  refine V_aload_n dX8_newVintage_28 rfl ?_
  refine V_getr (b := 174) 8 1 dX8_newVintage_29 (Or.inl lkX8_9) rfl rfl ⟨by omega, by omega⟩ (hR _ _ _ rfl) ?_
  refine V_bipush (v := 19) dX8_newVintage_32 rfl ?_
  refine V_dup2 dX8_newVintage_34 rfl rfl ?_
  refine V_iald (len := 938) 19 dX8_newVintage_35 rfl ⟨by omega, by omega⟩ (by decide) (by omega) ?_
  refine V_iconst (v := 1) dX8_newVintage_36 rfl ?_
  refine V_iadd dX8_newVintage_37 ?_
  refine V_iast (len := 938) 19 dX8_newVintage_38 rfl ⟨by omega, by omega⟩ (by decide) (by omega) ?_
  refine V_iload_n dX8_newVintage_39 rfl ?_
  refine V_iret dX8_newVintage_40 rfl rfl ?_
  have hv2 : up2 (up2 mi 174 (68 + Nv) y) 174 (7 + Nv) b 174 19 = mi 174 19 := by simp only [up2]; repeat rw [if_neg (by omega)]
  exact ⟨rfl, rfl, by rw [hv2], rfl⟩
set_option maxRecDepth 4000 in
theorem qX8_pours (n : Nat) (mi : MI) (mr : MR) (hR : RF mr) (hn : 186 ≤ n) (x y : Int32) (p v : Nat) (hx : x.toInt = (p : Int)) (hp : p < 6) (hy : y.toInt = (v : Int)) (hv : v < 5) : Ct KX8_pours 1 0 0 [.ref 173, .int x, .int y] n mi mr (eqQ none n (if 0 < mi 174 (7 + v) then up2 (up2 mi 174 (7 + v) (mi 174 (7 + v) - 1)) 174 (1 + p) y else mi) mr) := by
  refine Ct.of2 [some (.ref 173), some (.int x), some (.int y)] (by decide +kernel) (Nat.le_of_ble_eq_true rfl) rfl ?_
  refine V_aload_n dX8_pours_0 rfl ?_
  refine V_getr (b := 174) 8 1 dX8_pours_1 (Or.inl lkX8_9) rfl rfl ⟨by omega, by omega⟩ (hR _ _ _ rfl) ?_
  refine V_bipush (v := 7) dX8_pours_4 rfl ?_
  refine V_iload_n dX8_pours_6 rfl ?_
  refine V_iadd dX8_pours_7 ?_
  refine V_iald (len := 938) (7 + v) dX8_pours_8 rfl ⟨by omega, by omega⟩ (ix_add (by decide) hy (by omega)) (by omega) ?_
  refine V_if_le (tgt := 34) dX8_pours_9 (by decide) (fun c9 => ?_) (fun c9 => ?_)
  · refine V_ret dX8_pours_34 rfl ?_
    first | exact ⟨rfl, rfl, by rw [if_pos (Int32.not_le.mp c9)], rfl⟩ | exact ⟨rfl, rfl, by rw [if_neg (Int32.not_lt.mpr c9)], rfl⟩
  · refine V_aload_n dX8_pours_12 rfl ?_
    refine V_getr (b := 174) 8 1 dX8_pours_13 (Or.inl lkX8_9) rfl rfl ⟨by omega, by omega⟩ (hR _ _ _ rfl) ?_
    refine V_bipush (v := 7) dX8_pours_16 rfl ?_
    refine V_iload_n dX8_pours_18 rfl ?_
    refine V_iadd dX8_pours_19 ?_
    refine V_dup2 dX8_pours_20 rfl rfl ?_
    refine V_iald (len := 938) (7 + v) dX8_pours_21 rfl ⟨by omega, by omega⟩ (ix_add (by decide) hy (by omega)) (by omega) ?_
    refine V_iconst (v := 1) dX8_pours_22 rfl ?_
    refine V_isub dX8_pours_23 ?_
    refine V_iast (len := 938) (7 + v) dX8_pours_24 rfl ⟨by omega, by omega⟩ (ix_add (by decide) hy (by omega)) (by omega) ?_
    refine V_aload_n dX8_pours_25 rfl ?_
    refine V_getr (b := 174) 8 1 dX8_pours_26 (Or.inl lkX8_9) rfl rfl ⟨by omega, by omega⟩ (hR _ _ _ rfl) ?_
    refine V_iconst (v := 1) dX8_pours_29 rfl ?_
    refine V_iload_n dX8_pours_30 rfl ?_
    refine V_iadd dX8_pours_31 ?_
    refine V_iload_n dX8_pours_32 rfl ?_
    refine V_iast (len := 938) (1 + p) dX8_pours_33 rfl ⟨by omega, by omega⟩ (ix_add (by decide) hx (by omega)) (by omega) ?_
    refine V_ret dX8_pours_34 rfl ?_
    first | exact ⟨rfl, rfl, by rw [if_pos (Int32.not_le.mp c9)], rfl⟩ | exact ⟨rfl, rfl, by rw [if_neg (Int32.not_lt.mpr c9)], rfl⟩
/-- the reference's: all up to k have none -/
def dryM (mi : MI) : Nat → MI
  | 0 => mi
  | k + 1 => up2 (dryM mi k) 174 (1 + k) (-1)
theorem dryM_off {mi : MI} {a k : Nat} : ∀ {N : Nat}, (∀ p, p < N → ¬ (a = 174 ∧ k = 1 + p)) → dryM mi N a k = mi a k
  | 0, _ => rfl
  | N + 1, h => by
    show up2 _ _ _ _ _ _ = _
    simp only [up2]
    rw [if_neg (h N (by omega))]
    exact dryM_off (fun p hp => h p (by omega))
theorem dryM_has {mi : MI} {p : Nat} : ∀ {N : Nat}, p < N → dryM mi N 174 (1 + p) = -1
  | 0, h => absurd h (by omega)
  | N + 1, h => by
    show up2 _ _ _ _ _ _ = _
    by_cases e : p = N
    · subst e
      exact up2_s
    · simp only [up2]
      rw [if_neg (by omega)]
      exact dryM_has (by omega)
def dawnM (mi : MI) (N : Nat) : MI := up2 (dryM mi N) 174 0 (mi 174 0 + 1)
set_option maxRecDepth 4000 in
theorem qX8_dawns (n : Nat) (mi : MI) (mr : MR) (hR : RF mr) (hn : 186 ≤ n) (N : Nat) (hN6 : N ≤ 6) (hN : (mi 174 12).toInt = (N : Int))  : Ct KX8_dawns 1 0 0 [.ref 173] n mi mr (eqQ none n (dawnM mi N) mr) := by
  refine Ct.of2 [some (.ref 173), none] (by decide +kernel) (Nat.le_of_ble_eq_true rfl) rfl ?_
  refine V_iconst (v := 0) dX8_dawns_0 rfl ?_
  refine V_istore_n (L' := [_, _]) dX8_dawns_1 (by decide) rfl rfl ?_
  have loop : ∀ (m i : Nat) (x : Int32), i + m = N → x.toInt = (i : Int) → V KX8_dawns 1 0 0 (eqQ none n (dawnM mi N) mr) 2 [some (.ref 173), some (.int x)] [] n (dryM mi i) mr := by
    intro m
    induction m with
    | zero =>
      intro i x him hx
      have hN2 : (dryM mi i 174 12).toInt = (N : Int) := by rw [dryM_off (fun p hp => by omega)]; exact hN
      refine V_iload_n dX8_dawns_2 rfl ?_
      refine V_aload_n dX8_dawns_3 rfl ?_
      refine V_getr (b := 174) 8 1 dX8_dawns_4 (Or.inl lkX8_9) rfl rfl ⟨by omega, by omega⟩ (hR _ _ _ rfl) ?_
      refine V_bipush (v := 12) dX8_dawns_7 rfl ?_
      refine V_iald (len := 938) 12 dX8_dawns_9 rfl ⟨by omega, by omega⟩ (by decide) (by omega) ?_
      refine V_icmp_ge (tgt := 28) dX8_dawns_10 (by decide) (fun c10 => ?_) (fun c10 => absurd ((le_nat hN2 hx).mpr (by omega)) c10)
      refine V_aload_n dX8_dawns_28 rfl ?_
      refine V_getr (b := 174) 8 1 dX8_dawns_29 (Or.inl lkX8_9) rfl rfl ⟨by omega, by omega⟩ (hR _ _ _ rfl) ?_
      refine V_iconst (v := 0) dX8_dawns_32 rfl ?_
      refine V_dup2 dX8_dawns_33 rfl rfl ?_
      refine V_iald (len := 938) 0 dX8_dawns_34 rfl ⟨by omega, by omega⟩ (by decide) (by omega) ?_
      refine V_iconst (v := 1) dX8_dawns_35 rfl ?_
      refine V_iadd dX8_dawns_36 ?_
      refine V_iast (len := 938) 0 dX8_dawns_37 rfl ⟨by omega, by omega⟩ (by decide) (by omega) ?_
      refine V_ret dX8_dawns_38 rfl ?_
      have hi : i = N := by omega
      subst hi
      exact ⟨rfl, rfl, by unfold dawnM; rw [dryM_off (a := 174) (k := 0) (fun p hp => by omega)], rfl⟩
    | succ m ih =>
      intro i x him hx
      have hN2 : (dryM mi i 174 12).toInt = (N : Int) := by rw [dryM_off (fun p hp => by omega)]; exact hN
      refine V_iload_n dX8_dawns_2 rfl ?_
      refine V_aload_n dX8_dawns_3 rfl ?_
      refine V_getr (b := 174) 8 1 dX8_dawns_4 (Or.inl lkX8_9) rfl rfl ⟨by omega, by omega⟩ (hR _ _ _ rfl) ?_
      refine V_bipush (v := 12) dX8_dawns_7 rfl ?_
      refine V_iald (len := 938) 12 dX8_dawns_9 rfl ⟨by omega, by omega⟩ (by decide) (by omega) ?_
      refine V_icmp_ge (tgt := 28) dX8_dawns_10 (by decide) (fun c10 => absurd ((le_nat hN2 hx).mp c10) (by omega)) (fun c10 => ?_)
      refine V_aload_n dX8_dawns_13 rfl ?_
      refine V_getr (b := 174) 8 1 dX8_dawns_14 (Or.inl lkX8_9) rfl rfl ⟨by omega, by omega⟩ (hR _ _ _ rfl) ?_
      refine V_iconst (v := 1) dX8_dawns_17 rfl ?_
      refine V_iload_n dX8_dawns_18 rfl ?_
      refine V_iadd dX8_dawns_19 ?_
      refine V_iconst (v := -1) dX8_dawns_20 rfl ?_
      refine V_iast (len := 938) (1 + i) dX8_dawns_21 rfl ⟨by omega, by omega⟩ (ix_add (by decide) hx (by omega)) (by omega) ?_
      refine V_iinc (v := _ + (1)) (L' := [_, _]) dX8_dawns_22 (by decide) rfl rfl rfl rfl ?_
      refine V_goto (tgt := 2) dX8_dawns_25 (by decide) ?_
      exact ih (i + 1) _ (by omega) (ix_add hx (by decide) (by omega))
  exact loop N 0 _ (by omega) (by decide)
set_option maxRecDepth 4000 in
theorem qX8_does (n : Nat) (mi : MI) (mr : MR) (hR : RF mr) (hn : 186 ≤ n) (N : Nat) (hN6 : N ≤ 6) (hN : (mi 174 12).toInt = (N : Int)) (wh x y : Int32) (hok : wh = 0 ∨ ((∃ p : Nat, x.toInt = (p : Int) ∧ p < 6) ∧ (wh = 1 → ∃ v : Nat, y.toInt = (v : Int) ∧ v < 5))) : Ct KX8_does 2 0 0 [.ref 173, .int wh, .int x, .int y] n mi mr (eqQ none n (if wh = 0 then dawnM mi N else if wh = 1 then (if 0 < mi 174 (7 + y.toNatClampNeg) then up2 (up2 mi 174 (7 + y.toNatClampNeg) (mi 174 (7 + y.toNatClampNeg) - 1)) 174 (1 + x.toNatClampNeg) y else mi) else up2 mi 174 (1 + x.toNatClampNeg) (-1)) mr) := by
  refine Ct.of2 [some (.ref 173), some (.int wh), some (.int x), some (.int y)] (by decide +kernel) (Nat.le_of_ble_eq_true rfl) rfl ?_
  refine V_iload_n dX8_does_0 rfl ?_
  refine V_if_ne (tgt := 11) dX8_does_1 (by decide) (fun c1 => ?_) (fun c1 => ?_)
  · obtain ⟨⟨p, hp1, hp2⟩, hvv⟩ := hok.resolve_left c1
    refine V_iload_n dX8_does_11 rfl ?_
    refine V_iconst (v := 1) dX8_does_12 rfl ?_
    refine V_icmp_ne (tgt := 25) dX8_does_13 (by decide) (fun c13 => ?_) (fun c13 => ?_)
    · refine V_aload_n dX8_does_25 rfl ?_
      refine V_getr (b := 174) 8 1 dX8_does_26 (Or.inl lkX8_9) rfl rfl ⟨by omega, by omega⟩ (hR _ _ _ rfl) ?_
      refine V_iconst (v := 1) dX8_does_29 rfl ?_
      refine V_iload_n dX8_does_30 rfl ?_
      refine V_iadd dX8_does_31 ?_
      refine V_iconst (v := -1) dX8_does_32 rfl ?_
      refine V_iast (len := 938) (1 + p) dX8_does_33 rfl ⟨by omega, by omega⟩ (ix_add (by decide) hp1 (by omega)) (by omega) ?_
      refine V_ret dX8_does_34 rfl ?_
      refine ⟨rfl, rfl, ?_, rfl⟩
      first
        | rw [if_pos c1]
        | rw [if_neg c1, if_pos c13, nat_of_toInt hp1, nat_of_toInt hv1]
        | rw [if_neg c1, if_neg c13, nat_of_toInt hp1]
    · obtain ⟨v, hv1, hv2⟩ := hvv c13
      refine V_aload_n dX8_does_16 rfl ?_
      refine V_iload_n dX8_does_17 rfl ?_
      refine V_iload_n dX8_does_18 rfl ?_
      refine V_callV (ci := 8) (qX8_pours _ _ _ hR hn _ _ p v hp1 hp2 hv1 hv2) dX8_does_19 mlX8_187 mtX8_pours ivX8_pours rfl rfl ⟨by omega, by omega⟩ (by decide) rfl rfl (by decide) (Nat.le_of_ble_eq_true rfl) rfl rfl ?_
      rintro _ _ _ _ ⟨rfl, rfl, rfl, rfl⟩
      refine V_goto (tgt := 34) dX8_does_22 (by decide) ?_
      refine V_ret dX8_does_34 rfl ?_
      refine ⟨rfl, rfl, ?_, rfl⟩
      first
        | rw [if_pos c1]
        | rw [if_neg c1, if_pos c13, nat_of_toInt hp1, nat_of_toInt hv1]
        | rw [if_neg c1, if_neg c13, nat_of_toInt hp1]
  · refine V_aload_n dX8_does_4 rfl ?_
    refine V_callV (ci := 8) (qX8_dawns _ _ _ hR hn N hN6 hN) dX8_does_5 mlX8_191 mtX8_dawns ivX8_dawns rfl rfl ⟨by omega, by omega⟩ (by decide) rfl rfl (by decide) (Nat.le_of_ble_eq_true rfl) rfl rfl ?_
    rintro _ _ _ _ ⟨rfl, rfl, rfl, rfl⟩
    refine V_goto (tgt := 34) dX8_does_8 (by decide) ?_
    refine V_ret dX8_does_34 rfl ?_
    refine ⟨rfl, rfl, ?_, rfl⟩
    first
      | rw [if_pos c1]
      | rw [if_neg c1, if_pos c13, nat_of_toInt hp1, nat_of_toInt hv1]
      | rw [if_neg c1, if_neg c13, nat_of_toInt hp1]
