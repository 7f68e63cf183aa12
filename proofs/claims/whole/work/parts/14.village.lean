theorem le_nat {x y : Int32} {a b : Nat} (hx : x.toInt = (a : Int)) (hy : y.toInt = (b : Int)) : x ≤ y ↔ a ≤ b := by rw [Int32.le_iff_toInt_le, hx, hy]; omega
theorem lt_nat {x y : Int32} {a b : Nat} (hx : x.toInt = (a : Int)) (hy : y.toInt = (b : Int)) : x < y ↔ a < b := by rw [Int32.lt_iff_toInt_lt, hx, hy]; omega
theorem eq_nat {x y : Int32} {a b : Nat} (hx : x.toInt = (a : Int)) (hy : y.toInt = (b : Int)) : x = y ↔ a = b := by rw [← Int32.toInt_inj, hx, hy]; omega
def okStep (c : Int32) : Prop := c = -1 ∨ c = -2 ∨ c = -3 ∨ ∃ k : Nat, c.toInt = (k : Int) ∧ k < 1800
def vPass (f : Nat → Int32) (c : Int32) : Prop :=
  if (c / 100) - (c / 100) / 3 * 3 = 0 then f (c / 300).toInt.toNat < c - c / 100 * 100 else if (c / 100) - (c / 100) / 3 * 3 = 1 then f (c / 300).toInt.toNat = c - c / 100 * 100 else c - c / 100 * 100 < f (c / 300).toInt.toNat
noncomputable def vPassB (f : Nat → Int32) (c : Int32) : Int32 := @ite _ (vPass f c) (Classical.propDecidable _) 1 0
noncomputable def stk1 (f : Nat → Int32) (c st : Int32) : Int32 :=
  if c = -3 then (st >>> (1 &&& 31)) ||| (st &&& 1) else if c = -2 then (st >>> (1 &&& 31)) &&& ((-2) ||| (st &&& 1)) else if c = -1 then st ^^^ 1 else (st <<< (1 &&& 31)) ||| vPassB f c
/-- the stack behind m steps from i on -/
noncomputable def evs (f s : Nat → Int32) (i : Nat) : Nat → Int32 → Int32
  | 0, st => st
  | m + 1, st => evs f s (i + 1) m (stk1 f (s i) st)
noncomputable def vHolds (f s : Nat → Int32) (a b : Nat) : Int32 := b01 (evs f s a (b - a) 0 &&& 1 = 1)
def vFrom (e : Nat → Nat) : Nat → Nat
  | 0 => 0
  | k + 1 => e k
noncomputable def vSum (f s nv : Nat → Int32) (e : Nat → Nat) : Nat → Int32
  | 0 => 10
  | k + 1 => if vHolds f s (vFrom e k) (e k) = 0 then vSum f s nv e k else vSum f s nv e k + nv k
noncomputable def vNerve (f s nv : Nat → Int32) (e : Nat → Nat) (nc : Nat) : Int32 := if 0 < vSum f s nv e nc then vSum f s nv e nc else 0
/-- a village that stands: so many clauses, where each ends -/
def VOK (mi : MI) (a nc : Nat) (e : Nat → Nat) : Prop := (mi a 2).toInt = (nc : Int) ∧ nc ≤ 10 ∧ (∀ k, k < nc → (mi (a + 3) k).toInt = (e k : Int) ∧ e k ≤ 100 ∧ ∀ i, i < e k → okStep (mi (a + 1) i)) ∧ ∀ k, k < nc → vFrom e k ≤ e k
theorem divN {c : Int32} {k d : Nat} (h : c.toInt = (k : Int)) (hd : 0 < d) (hd2 : d < 2147483648) : (c / nI d).toInt = ((k / d : Nat) : Int) := by
  have hk : k < 2147483648 := by have := c.toInt_lt; omega
  rw [nI_of_toInt h, pk_div (by omega) hd (by omega), nI_toInt (by have := Nat.div_le_self k d; omega)]
theorem vPassB_t {f : Nat → Int32} {c : Int32} (h : vPass f c) : vPassB f c = 1 := by unfold vPassB; exact if_pos h
theorem vPassB_f {f : Nat → Int32} {c : Int32} (h : ¬ vPass f c) : vPassB f c = 0 := by unfold vPassB; exact if_neg h
theorem vPassB_nar {f : Nat → Int32} {c : Int32} : narrow .boolean (.int (vPassB f c)) = .int (vPassB f c) := by unfold vPassB; split <;> rfl
theorem vHolds_nar {f s : Nat → Int32} {a b : Nat} : narrow .boolean (.int (vHolds f s a b)) = .int (vHolds f s a b) := b01_nar
set_option maxRecDepth 4000 in
theorem qX5_passes (n : Nat) (mi : MI) (mr : MR) (hR : RF mr) (hn : 186 ≤ n) (fa : Nat) (hfs : SH fa = .inr (0, 6)) (hfa : 32 ≤ fa ∧ fa < n) (c : Int32) (k : Nat) (hc : c.toInt = (k : Int)) (hk : k < 1800) : Ct KX5_passes 1 0 0 [.ref fa, .int c] n mi mr (eqQ (some (.int (vPassB (mi fa) c))) n mi mr) := by
  refine Ct.of2 [some (.ref fa), some (.int c), none, none] (by decide +kernel) (Nat.le_of_ble_eq_true rfl) rfl ?_
  have hj0 : (c / 300).toInt = ((k / 300 : Nat) : Int) := divN (d := 300) hc (by decide) (by decide)
  have hj : (c / 300).toInt = (((c / 300).toInt.toNat : Nat) : Int) := by rw [hj0]; rfl
  have hlt : (c / 300).toInt.toNat < 6 := by rw [hj0]; have := Nat.div_lt_of_lt_mul (show k < 300 * 6 by omega); show k / 300 < 6; omega
  refine V_aload_n dX5_passes_0 rfl ?_
  refine V_iload_n dX5_passes_1 rfl ?_
  refine V_sipush (v := 300) dX5_passes_2 rfl ?_
  refine V_idiv dX5_passes_5 (by decide) ?_
  refine V_iald (len := 6) ((c / 300).toInt.toNat) dX5_passes_6 hfs hfa hj hlt ?_
  refine V_istore_n (L' := [_, _, _, _]) dX5_passes_7 (by decide) rfl rfl ?_
  refine V_iload_n dX5_passes_8 rfl ?_
  refine V_bipush (v := 100) dX5_passes_9 rfl ?_
  refine V_irem dX5_passes_11 (by decide) ?_
  refine V_istore_n (L' := [_, _, _, _]) dX5_passes_12 (by decide) rfl rfl ?_
  refine V_iload_n dX5_passes_13 rfl ?_
  refine V_bipush (v := 100) dX5_passes_14 rfl ?_
  refine V_idiv dX5_passes_16 (by decide) ?_
  refine V_iconst (v := 3) dX5_passes_17 rfl ?_
  refine V_irem dX5_passes_18 (by decide) ?_
  by_cases k0 : (c / 100 - c / 100 / 3 * 3) = 0
  · refine V_lookup (off := 25) (tgt := 44) dX5_passes_19 rfl (by rw [k0]; rfl) (by decide) ?_
    refine V_iload_n dX5_passes_44 rfl ?_
    refine V_iload_n dX5_passes_45 rfl ?_
    refine V_icmp_ge (tgt := 53) dX5_passes_46 (by decide) (fun c46 => ?_) (fun c46 => ?_)
    · refine V_iconst (v := 0) dX5_passes_53 rfl ?_
      refine V_iret dX5_passes_54 rfl rfl ?_
      refine ⟨?_, rfl, rfl, rfl⟩
      first
        | rw [vPassB_t (by unfold vPass; first | (rw [if_pos k0]; exact c46) | (rw [if_neg k0, if_pos k1]; exact c57) | (rw [if_neg k0, if_neg k1]; exact c68) | (rw [if_pos k0]; exact Int32.not_le.mp c46) | (rw [if_neg k0, if_pos k1]; exact Classical.not_not.mp c57) | (rw [if_neg k0, if_neg k1]; exact Int32.not_le.mp c68))]
        | rw [vPassB_f (by unfold vPass; first | (rw [if_pos k0]; exact c46) | (rw [if_neg k0, if_pos k1]; exact c57) | (rw [if_neg k0, if_neg k1]; exact c68) | (rw [if_pos k0]; exact Int32.not_lt.mpr c46) | (rw [if_neg k0, if_neg k1]; exact Int32.not_lt.mpr c68))]
    · refine V_iconst (v := 1) dX5_passes_49 rfl ?_
      refine V_goto (tgt := 54) dX5_passes_50 (by decide) ?_
      refine V_iret dX5_passes_54 rfl rfl ?_
      refine ⟨?_, rfl, rfl, rfl⟩
      first
        | rw [vPassB_t (by unfold vPass; first | (rw [if_pos k0]; exact c46) | (rw [if_neg k0, if_pos k1]; exact c57) | (rw [if_neg k0, if_neg k1]; exact c68) | (rw [if_pos k0]; exact Int32.not_le.mp c46) | (rw [if_neg k0, if_pos k1]; exact Classical.not_not.mp c57) | (rw [if_neg k0, if_neg k1]; exact Int32.not_le.mp c68))]
        | rw [vPassB_f (by unfold vPass; first | (rw [if_pos k0]; exact c46) | (rw [if_neg k0, if_pos k1]; exact c57) | (rw [if_neg k0, if_neg k1]; exact c68) | (rw [if_pos k0]; exact Int32.not_lt.mpr c46) | (rw [if_neg k0, if_neg k1]; exact Int32.not_lt.mpr c68))]
  by_cases k1 : (c / 100 - c / 100 / 3 * 3) = 1
  · refine V_lookup (off := 36) (tgt := 55) dX5_passes_19 rfl (by rw [k1]; rfl) (by decide) ?_
    refine V_iload_n dX5_passes_55 rfl ?_
    refine V_iload_n dX5_passes_56 rfl ?_
    refine V_icmp_ne (tgt := 64) dX5_passes_57 (by decide) (fun c57 => ?_) (fun c57 => ?_)
    · refine V_iconst (v := 0) dX5_passes_64 rfl ?_
      refine V_iret dX5_passes_65 rfl rfl ?_
      refine ⟨?_, rfl, rfl, rfl⟩
      first
        | rw [vPassB_t (by unfold vPass; first | (rw [if_pos k0]; exact c46) | (rw [if_neg k0, if_pos k1]; exact c57) | (rw [if_neg k0, if_neg k1]; exact c68) | (rw [if_pos k0]; exact Int32.not_le.mp c46) | (rw [if_neg k0, if_pos k1]; exact Classical.not_not.mp c57) | (rw [if_neg k0, if_neg k1]; exact Int32.not_le.mp c68))]
        | rw [vPassB_f (by unfold vPass; first | (rw [if_pos k0]; exact c46) | (rw [if_neg k0, if_pos k1]; exact c57) | (rw [if_neg k0, if_neg k1]; exact c68) | (rw [if_pos k0]; exact Int32.not_lt.mpr c46) | (rw [if_neg k0, if_neg k1]; exact Int32.not_lt.mpr c68))]
    · refine V_iconst (v := 1) dX5_passes_60 rfl ?_
      refine V_goto (tgt := 65) dX5_passes_61 (by decide) ?_
      refine V_iret dX5_passes_65 rfl rfl ?_
      refine ⟨?_, rfl, rfl, rfl⟩
      first
        | rw [vPassB_t (by unfold vPass; first | (rw [if_pos k0]; exact c46) | (rw [if_neg k0, if_pos k1]; exact c57) | (rw [if_neg k0, if_neg k1]; exact c68) | (rw [if_pos k0]; exact Int32.not_le.mp c46) | (rw [if_neg k0, if_pos k1]; exact Classical.not_not.mp c57) | (rw [if_neg k0, if_neg k1]; exact Int32.not_le.mp c68))]
        | rw [vPassB_f (by unfold vPass; first | (rw [if_pos k0]; exact c46) | (rw [if_neg k0, if_pos k1]; exact c57) | (rw [if_neg k0, if_neg k1]; exact c68) | (rw [if_pos k0]; exact Int32.not_lt.mpr c46) | (rw [if_neg k0, if_neg k1]; exact Int32.not_lt.mpr c68))]
  refine V_lookup (off := 47) (tgt := 66) dX5_passes_19 rfl (by
    have h0 : ¬ ((c / 100 - c / 100 / 3 * 3).toInt = 0) := fun h => k0 (by rw [← Int32.toInt_inj]; exact h)
    have h1 : ¬ ((c / 100 - c / 100 / 3 * 3).toInt = 1) := fun h => k1 (by rw [← Int32.toInt_inj]; exact h)
    revert h0 h1
    generalize ((c / 100 - c / 100 / 3 * 3)).toInt = z
    intro h0 h1
    have h2 : ¬ 0 = z := fun h => h0 h.symm
    have h3 : ¬ 1 = z := fun h => h1 h.symm
    simp [Op.lookupswitch.offset, h2, h3]) (by decide) ?_
  refine V_iload_n dX5_passes_66 rfl ?_
  refine V_iload_n dX5_passes_67 rfl ?_
  refine V_icmp_le (tgt := 75) dX5_passes_68 (by decide) (fun c68 => ?_) (fun c68 => ?_)
  · refine V_iconst (v := 0) dX5_passes_75 rfl ?_
    refine V_iret dX5_passes_76 rfl rfl ?_
    refine ⟨?_, rfl, rfl, rfl⟩
    first
      | rw [vPassB_t (by unfold vPass; first | (rw [if_pos k0]; exact c46) | (rw [if_neg k0, if_pos k1]; exact c57) | (rw [if_neg k0, if_neg k1]; exact c68) | (rw [if_pos k0]; exact Int32.not_le.mp c46) | (rw [if_neg k0, if_pos k1]; exact Classical.not_not.mp c57) | (rw [if_neg k0, if_neg k1]; exact Int32.not_le.mp c68))]
      | rw [vPassB_f (by unfold vPass; first | (rw [if_pos k0]; exact c46) | (rw [if_neg k0, if_pos k1]; exact c57) | (rw [if_neg k0, if_neg k1]; exact c68) | (rw [if_pos k0]; exact Int32.not_lt.mpr c46) | (rw [if_neg k0, if_neg k1]; exact Int32.not_lt.mpr c68))]
  · refine V_iconst (v := 1) dX5_passes_71 rfl ?_
    refine V_goto (tgt := 76) dX5_passes_72 (by decide) ?_
    refine V_iret dX5_passes_76 rfl rfl ?_
    refine ⟨?_, rfl, rfl, rfl⟩
    first
      | rw [vPassB_t (by unfold vPass; first | (rw [if_pos k0]; exact c46) | (rw [if_neg k0, if_pos k1]; exact c57) | (rw [if_neg k0, if_neg k1]; exact c68) | (rw [if_pos k0]; exact Int32.not_le.mp c46) | (rw [if_neg k0, if_pos k1]; exact Classical.not_not.mp c57) | (rw [if_neg k0, if_neg k1]; exact Int32.not_le.mp c68))]
      | rw [vPassB_f (by unfold vPass; first | (rw [if_pos k0]; exact c46) | (rw [if_neg k0, if_pos k1]; exact c57) | (rw [if_neg k0, if_neg k1]; exact c68) | (rw [if_pos k0]; exact Int32.not_lt.mpr c46) | (rw [if_neg k0, if_neg k1]; exact Int32.not_lt.mpr c68))]
theorem stk1_m1 {f : Nat → Int32} {c st : Int32} (h : c = -1) : stk1 f c st = st ^^^ 1 := by unfold stk1; rw [if_neg (by rw [h]; decide), if_neg (by rw [h]; decide), if_pos h]
theorem stk1_m2 {f : Nat → Int32} {c st : Int32} (h : c = -2) : stk1 f c st = (st >>> (1 &&& 31)) &&& ((-2) ||| (st &&& 1)) := by unfold stk1; rw [if_neg (by rw [h]; decide), if_pos h]
theorem stk1_m3 {f : Nat → Int32} {c st : Int32} (h : c = -3) : stk1 f c st = (st >>> (1 &&& 31)) ||| (st &&& 1) := by unfold stk1; rw [if_pos h]
theorem stk1_p {f : Nat → Int32} {c st : Int32} {q : Nat} (h : c.toInt = (q : Int)) : stk1 f c st = (st <<< (1 &&& 31)) ||| vPassB f c := by
  have h1 : ¬ c = -3 := fun e => by simp only [e, Int32.reduceToInt] at h; omega
  have h2 : ¬ c = -2 := fun e => by simp only [e, Int32.reduceToInt] at h; omega
  have h3 : ¬ c = -1 := fun e => by simp only [e, Int32.reduceToInt] at h; omega
  unfold stk1
  rw [if_neg h1, if_neg h2, if_neg h3]
theorem vPassB_1 {f : Nat → Int32} {c : Int32} (h : ¬ vPassB f c = 0) : vPassB f c = 1 := by
  unfold vPassB at h ⊢
  split
  · rfl
  · rename_i q
    rw [if_neg q] at h
    exact absurd rfl h
set_option maxRecDepth 4000 in
theorem qX5_holdsFor (n : Nat) (mi : MI) (mr : MR) (hR : RF mr) (hn : 186 ≤ n) (fa : Nat) (hfs : SH fa = .inr (0, 6)) (hfa : 32 ≤ fa ∧ fa < n) (a : Nat) (hv : isV a) (u v : Int32) (a0 b0 : Nat) (hu : u.toInt = (a0 : Int)) (hv2 : v.toInt = (b0 : Int)) (hab : a0 ≤ b0) (hb : b0 ≤ 100) (hs : ∀ i, i < b0 → okStep (mi (a + 1) i)) : Ct KX5_holdsFor 2 0 0 [.ref a, .ref fa, .int u, .int v] n mi mr (eqQ (some (.int (vHolds (mi fa) (mi (a + 1)) a0 b0))) n mi mr) := by
  refine Ct.of2 [some (.ref a), some (.ref fa), some (.int u), some (.int v), none, none, none] (by decide +kernel) (Nat.le_of_ble_eq_true rfl) rfl ?_
  have hvl := hv.le
  refine V_iconst (v := 0) dX5_holdsFor_0 rfl ?_
  refine V_istore (L' := [_, _, _, _, _, _, _]) dX5_holdsFor_1 (by decide) rfl rfl ?_
  refine V_iload_n dX5_holdsFor_3 rfl ?_
  refine V_istore (L' := [_, _, _, _, _, _, _]) dX5_holdsFor_4 (by decide) rfl rfl ?_
  have loop : ∀ (m i : Nat) (sk x : Int32) (tp : Option Value), i + m = b0 → x.toInt = (i : Int) → evs (mi fa) (mi (a + 1)) i m sk = evs (mi fa) (mi (a + 1)) a0 (b0 - a0) 0 → V KX5_holdsFor 2 0 0 (eqQ (some (.int (vHolds (mi fa) (mi (a + 1)) a0 b0))) n mi mr) 6 [some (.ref a), some (.ref fa), some (.int u), some (.int v), some (.int sk), some (.int x), tp] [] n mi mr := by
    intro m
    induction m with
    | zero =>
      intro i sk x tp him hx he
      refine V_iload dX5_holdsFor_6 rfl ?_
      refine V_iload_n dX5_holdsFor_8 rfl ?_
      refine V_icmp_ge (tgt := 120) dX5_holdsFor_9 (by decide) (fun c9 => ?_) (fun c9 => absurd ((le_nat hv2 hx).mpr (by omega)) c9)
      refine V_iload dX5_holdsFor_120 rfl ?_
      refine V_iconst (v := 1) dX5_holdsFor_122 rfl ?_
      refine V_iand dX5_holdsFor_123 ?_
      refine V_iconst (v := 1) dX5_holdsFor_124 rfl ?_
      refine V_icmp_ne (tgt := 132) dX5_holdsFor_125 (by decide) (fun c125 => ?_) (fun c125 => ?_)
      · refine V_iconst (v := 0) dX5_holdsFor_132 rfl ?_
        refine V_iret dX5_holdsFor_133 rfl rfl ?_
        refine ⟨?_, rfl, rfl, rfl⟩
        unfold vHolds
        rw [← he]
        first | rw [b01_t (show evs (mi fa) (mi (a + 1)) i 0 sk &&& 1 = 1 from c125)] | rw [b01_f (show ¬ evs (mi fa) (mi (a + 1)) i 0 sk &&& 1 = 1 from c125)]
      · refine V_iconst (v := 1) dX5_holdsFor_128 rfl ?_
        refine V_goto (tgt := 133) dX5_holdsFor_129 (by decide) ?_
        refine V_iret dX5_holdsFor_133 rfl rfl ?_
        refine ⟨?_, rfl, rfl, rfl⟩
        unfold vHolds
        rw [← he]
        first | rw [b01_t (show evs (mi fa) (mi (a + 1)) i 0 sk &&& 1 = 1 from c125)] | rw [b01_f (show ¬ evs (mi fa) (mi (a + 1)) i 0 sk &&& 1 = 1 from c125)]
    | succ m ih =>
      intro i sk x tp him hx he
      refine V_iload dX5_holdsFor_6 rfl ?_
      refine V_iload_n dX5_holdsFor_8 rfl ?_
      refine V_icmp_ge (tgt := 120) dX5_holdsFor_9 (by decide) (fun c9 => absurd ((le_nat hv2 hx).mp c9) (by omega)) (fun c9 => ?_)
      refine V_iload dX5_holdsFor_12 rfl ?_
      refine V_iconst (v := 1) dX5_holdsFor_14 rfl ?_
      refine V_iand dX5_holdsFor_15 ?_
      refine V_istore (L' := [_, _, _, _, _, _, _]) dX5_holdsFor_16 (by decide) rfl rfl ?_
      refine V_aload_n dX5_holdsFor_18 rfl ?_
      refine V_getr (b := (a + 1)) 5 4 dX5_holdsFor_19 (Or.inl lkX5_9) rfl (sV hv (o := 0) (by omega)) ⟨by omega, by omega⟩ (hR _ _ _ (rV hv (k := 0) (by omega))) ?_
      refine V_iload dX5_holdsFor_22 rfl ?_
      refine V_iald (len := 100) i dX5_holdsFor_24 (sV hv (o := 1) (by omega)) ⟨by omega, by omega⟩ hx (by omega) ?_
      rcases hs i (by omega) with hq | hq | hq | ⟨q, hq1, hq2⟩
      · refine V_tableIn (off := 27) (tgt := 52) dX5_holdsFor_25 (by rw [hq]; decide) (by rw [hq]; decide) (by rw [hq]; rfl) (by decide) ?_
        refine V_iload dX5_holdsFor_52 rfl ?_
        refine V_iconst (v := 1) dX5_holdsFor_54 rfl ?_
        refine V_ixor dX5_holdsFor_55 ?_
        refine V_istore (L' := [_, _, _, _, _, _, _]) dX5_holdsFor_56 (by decide) rfl rfl ?_
        refine V_goto (tgt := 114) dX5_holdsFor_58 (by decide) ?_
        refine V_iinc (v := _ + (1)) (L' := [_, _, _, _, _, _, _]) dX5_holdsFor_114 (by decide) rfl rfl rfl rfl ?_
        refine V_goto (tgt := 6) dX5_holdsFor_117 (by decide) ?_
        exact ih (i + 1) _ _ _ (by omega) (ix_add hx (by decide) (by omega)) (by rw [← he]; show _ = evs (mi fa) (mi (a + 1)) (i + 1) m (stk1 (mi fa) (mi (a + 1) i) sk); rw [stk1_m1 hq])
      · refine V_tableIn (off := 36) (tgt := 61) dX5_holdsFor_25 (by rw [hq]; decide) (by rw [hq]; decide) (by rw [hq]; rfl) (by decide) ?_
        refine V_iload dX5_holdsFor_61 rfl ?_
        refine V_iconst (v := 1) dX5_holdsFor_63 rfl ?_
        refine V_ishr dX5_holdsFor_64 ?_
        refine V_bipush (v := -2) dX5_holdsFor_65 rfl ?_
        refine V_iload dX5_holdsFor_67 rfl ?_
        refine V_ior dX5_holdsFor_69 ?_
        refine V_iand dX5_holdsFor_70 ?_
        refine V_istore (L' := [_, _, _, _, _, _, _]) dX5_holdsFor_71 (by decide) rfl rfl ?_
        refine V_goto (tgt := 114) dX5_holdsFor_73 (by decide) ?_
        refine V_iinc (v := _ + (1)) (L' := [_, _, _, _, _, _, _]) dX5_holdsFor_114 (by decide) rfl rfl rfl rfl ?_
        refine V_goto (tgt := 6) dX5_holdsFor_117 (by decide) ?_
        exact ih (i + 1) _ _ _ (by omega) (ix_add hx (by decide) (by omega)) (by rw [← he]; show _ = evs (mi fa) (mi (a + 1)) (i + 1) m (stk1 (mi fa) (mi (a + 1) i) sk); rw [stk1_m2 hq])
      · refine V_tableIn (off := 51) (tgt := 76) dX5_holdsFor_25 (by rw [hq]; decide) (by rw [hq]; decide) (by rw [hq]; rfl) (by decide) ?_
        refine V_iload dX5_holdsFor_76 rfl ?_
        refine V_iconst (v := 1) dX5_holdsFor_78 rfl ?_
        refine V_ishr dX5_holdsFor_79 ?_
        refine V_iload dX5_holdsFor_80 rfl ?_
        refine V_ior dX5_holdsFor_82 ?_
        refine V_istore (L' := [_, _, _, _, _, _, _]) dX5_holdsFor_83 (by decide) rfl rfl ?_
        refine V_goto (tgt := 114) dX5_holdsFor_85 (by decide) ?_
        refine V_iinc (v := _ + (1)) (L' := [_, _, _, _, _, _, _]) dX5_holdsFor_114 (by decide) rfl rfl rfl rfl ?_
        refine V_goto (tgt := 6) dX5_holdsFor_117 (by decide) ?_
        exact ih (i + 1) _ _ _ (by omega) (ix_add hx (by decide) (by omega)) (by rw [← he]; show _ = evs (mi fa) (mi (a + 1)) (i + 1) m (stk1 (mi fa) (mi (a + 1) i) sk); rw [stk1_m3 hq])
      · refine V_tableOut (tgt := 88) dX5_holdsFor_25 (Or.inr (by rw [hq1]; omega)) (by decide) ?_
        refine V_iload dX5_holdsFor_88 rfl ?_
        refine V_iconst (v := 1) dX5_holdsFor_90 rfl ?_
        refine V_ishl dX5_holdsFor_91 ?_
        refine V_aload_n dX5_holdsFor_92 rfl ?_
        refine V_aload_n dX5_holdsFor_93 rfl ?_
        refine V_getr (b := (a + 1)) 5 4 dX5_holdsFor_94 (Or.inl lkX5_9) rfl (sV hv (o := 0) (by omega)) ⟨by omega, by omega⟩ (hR _ _ _ (rV hv (k := 0) (by omega))) ?_
        refine V_iload dX5_holdsFor_97 rfl ?_
        refine V_iald (len := 100) i dX5_holdsFor_99 (sV hv (o := 1) (by omega)) ⟨by omega, by omega⟩ hx (by omega) ?_
        refine V_callS (qX5_passes _ _ _ hR hn _ hfs hfa _ q hq1 hq2) dX5_holdsFor_100 mlX5_47 mtX5_passes smX5_passes rfl rfl (by decide) (Nat.le_of_ble_eq_true rfl) rfl rfl ?_
        rintro _ _ _ _ ⟨rfl, rfl, rfl, rfl⟩
        refine V_if_eq (tgt := 110) dX5_holdsFor_103 (by decide) (fun c103 => ?_) (fun c103 => ?_)
        · refine V_iconst (v := 0) dX5_holdsFor_110 rfl ?_
          refine V_ior dX5_holdsFor_111 ?_
          refine V_istore (L' := [_, _, _, _, _, _, _]) dX5_holdsFor_112 (by decide) rfl rfl ?_
          refine V_iinc (v := _ + (1)) (L' := [_, _, _, _, _, _, _]) dX5_holdsFor_114 (by decide) rfl rfl rfl rfl ?_
          refine V_goto (tgt := 6) dX5_holdsFor_117 (by decide) ?_
          first
            | exact ih (i + 1) _ _ _ (by omega) (ix_add hx (by decide) (by omega)) (by rw [← he]; show _ = evs (mi fa) (mi (a + 1)) (i + 1) m (stk1 (mi fa) (mi (a + 1) i) sk); rw [stk1_p hq1, c103])
            | exact ih (i + 1) _ _ _ (by omega) (ix_add hx (by decide) (by omega)) (by rw [← he]; show _ = evs (mi fa) (mi (a + 1)) (i + 1) m (stk1 (mi fa) (mi (a + 1) i) sk); rw [stk1_p hq1, vPassB_1 c103])
        · refine V_iconst (v := 1) dX5_holdsFor_106 rfl ?_
          refine V_goto (tgt := 111) dX5_holdsFor_107 (by decide) ?_
          refine V_ior dX5_holdsFor_111 ?_
          refine V_istore (L' := [_, _, _, _, _, _, _]) dX5_holdsFor_112 (by decide) rfl rfl ?_
          refine V_iinc (v := _ + (1)) (L' := [_, _, _, _, _, _, _]) dX5_holdsFor_114 (by decide) rfl rfl rfl rfl ?_
          refine V_goto (tgt := 6) dX5_holdsFor_117 (by decide) ?_
          first
            | exact ih (i + 1) _ _ _ (by omega) (ix_add hx (by decide) (by omega)) (by rw [← he]; show _ = evs (mi fa) (mi (a + 1)) (i + 1) m (stk1 (mi fa) (mi (a + 1) i) sk); rw [stk1_p hq1, c103])
            | exact ih (i + 1) _ _ _ (by omega) (ix_add hx (by decide) (by omega)) (by rw [← he]; show _ = evs (mi fa) (mi (a + 1)) (i + 1) m (stk1 (mi fa) (mi (a + 1) i) sk); rw [stk1_p hq1, vPassB_1 c103])
  exact loop (b0 - a0) a0 _ _ _ (by omega) hu rfl
set_option maxRecDepth 4000 in
theorem qX5_nerveFor (n : Nat) (mi : MI) (mr : MR) (hR : RF mr) (hn : 186 ≤ n) (fa : Nat) (hfs : SH fa = .inr (0, 6)) (hfa : 32 ≤ fa ∧ fa < n) (a : Nat) (hv : isV a) (nc : Nat) (e : Nat → Nat) (hV : VOK mi a nc e) : Ct KX5_nerveFor 3 0 0 [.ref a, .ref fa] n mi mr (eqQ (some (.int (vNerve (mi fa) (mi (a + 1)) (mi (a + 2)) e nc))) n mi mr) := by
  refine Ct.of2 [some (.ref a), some (.ref fa), none, none, none] (by decide +kernel) (Nat.le_of_ble_eq_true rfl) rfl ?_
  have hvl := hv.le
  have hnc := hV.2.1
  refine V_bipush (v := 10) dX5_nerveFor_0 rfl ?_
  refine V_istore_n (L' := [_, _, _, _, _]) dX5_nerveFor_2 (by decide) rfl rfl ?_
  refine V_iconst (v := 0) dX5_nerveFor_3 rfl ?_
  refine V_istore_n (L' := [_, _, _, _, _]) dX5_nerveFor_4 (by decide) rfl rfl ?_
  refine V_iconst (v := 0) dX5_nerveFor_5 rfl ?_
  refine V_istore (L' := [_, _, _, _, _]) dX5_nerveFor_6 (by decide) rfl rfl ?_
  have loop : ∀ (m i : Nat) (sm fr x : Int32), i + m = nc → x.toInt = (i : Int) → sm = vSum (mi fa) (mi (a + 1)) (mi (a + 2)) e i → fr.toInt = (vFrom e i : Int) → V KX5_nerveFor 3 0 0 (eqQ (some (.int (vNerve (mi fa) (mi (a + 1)) (mi (a + 2)) e nc))) n mi mr) 8 [some (.ref a), some (.ref fa), some (.int sm), some (.int fr), some (.int x)] [] n mi mr := by
    intro m
    induction m with
    | zero =>
      intro i sm fr x him hx hsm hfr
      refine V_iload dX5_nerveFor_8 rfl ?_
      refine V_aload_n dX5_nerveFor_10 rfl ?_
      refine V_geti 5 2 dX5_nerveFor_11 (Or.inl lkX5_31) rfl (sV hv (o := 0) (by omega)) ⟨by omega, by omega⟩ ?_
      refine V_icmp_ge (tgt := 57) dX5_nerveFor_14 (by decide) (fun c14 => ?_) (fun c14 => absurd ((le_nat hV.1 hx).mpr (by omega)) c14)
      refine V_iconst (v := 0) dX5_nerveFor_57 rfl ?_
      refine V_iload_n dX5_nerveFor_58 rfl ?_
      refine V_max dX5_nerveFor_59 mlX5_41 sm_max iniJ9 cm_max (by decide) (Nat.le_of_ble_eq_true rfl) ?_
      refine V_iret dX5_nerveFor_62 rfl rfl ?_
      have hi : i = nc := by omega
      subst hi
      refine ⟨?_, rfl, rfl, rfl⟩
      rw [hsm]
      rfl
    | succ m ih =>
      intro i sm fr x him hx hsm hfr
      refine V_iload dX5_nerveFor_8 rfl ?_
      refine V_aload_n dX5_nerveFor_10 rfl ?_
      refine V_geti 5 2 dX5_nerveFor_11 (Or.inl lkX5_31) rfl (sV hv (o := 0) (by omega)) ⟨by omega, by omega⟩ ?_
      refine V_icmp_ge (tgt := 57) dX5_nerveFor_14 (by decide) (fun c14 => absurd ((le_nat hV.1 hx).mp c14) (by omega)) (fun c14 => ?_)
      refine V_aload_n dX5_nerveFor_17 rfl ?_
      refine V_aload_n dX5_nerveFor_18 rfl ?_
      refine V_iload_n dX5_nerveFor_19 rfl ?_
      refine V_aload_n dX5_nerveFor_20 rfl ?_
      refine V_getr (b := (a + 3)) 5 6 dX5_nerveFor_21 (Or.inl lkX5_18) rfl (sV hv (o := 0) (by omega)) ⟨by omega, by omega⟩ (hR _ _ _ (rV hv (k := 2) (by omega))) ?_
      refine V_iload dX5_nerveFor_24 rfl ?_
      refine V_iald (len := 10) i dX5_nerveFor_26 (sV hv (o := 3) (by omega)) ⟨by omega, by omega⟩ hx (by omega) ?_
      refine V_callV (ci := 5) (qX5_holdsFor _ _ _ hR hn _ hfs hfa _ hv _ _ (vFrom e i) (e i) hfr (hV.2.2.1 i (by omega)).1 (hV.2.2.2 i (by omega)) (hV.2.2.1 i (by omega)).2.1 (hV.2.2.1 i (by omega)).2.2) dX5_nerveFor_27 mlX5_37 mtX5_holdsFor ivX5_holdsFor rfl (sV hv (o := 0) (by omega)) ⟨by omega, by omega⟩ (by decide) rfl rfl (by decide) (Nat.le_of_ble_eq_true rfl) rfl rfl ?_
      rintro _ _ _ _ ⟨rfl, rfl, rfl, rfl⟩
      refine V_if_eq (tgt := 43) dX5_nerveFor_30 (by decide) (fun c30 => ?_) (fun c30 => ?_)
      · refine V_aload_n dX5_nerveFor_43 rfl ?_
        refine V_getr (b := (a + 3)) 5 6 dX5_nerveFor_44 (Or.inl lkX5_18) rfl (sV hv (o := 0) (by omega)) ⟨by omega, by omega⟩ (hR _ _ _ (rV hv (k := 2) (by omega))) ?_
        refine V_iload dX5_nerveFor_47 rfl ?_
        refine V_iald (len := 10) i dX5_nerveFor_49 (sV hv (o := 3) (by omega)) ⟨by omega, by omega⟩ hx (by omega) ?_
        refine V_istore_n (L' := [_, _, _, _, _]) dX5_nerveFor_50 (by decide) rfl rfl ?_
        refine V_iinc (v := _ + (1)) (L' := [_, _, _, _, _]) dX5_nerveFor_51 (by decide) rfl rfl rfl rfl ?_
        refine V_goto (tgt := 8) dX5_nerveFor_54 (by decide) ?_
        have hei := (hV.2.2.1 i (by omega)).1
        first
          | exact ih (i + 1) _ _ _ (by omega) (ix_add hx (by decide) (by omega)) (by rw [vSum, if_pos c30, hsm]) hei
          | exact ih (i + 1) _ _ _ (by omega) (ix_add hx (by decide) (by omega)) (by rw [vSum, if_neg c30, hsm]) hei
      · refine V_iload_n dX5_nerveFor_33 rfl ?_
        refine V_aload_n dX5_nerveFor_34 rfl ?_
        refine V_getr (b := (a + 2)) 5 5 dX5_nerveFor_35 (Or.inl lkX5_15) rfl (sV hv (o := 0) (by omega)) ⟨by omega, by omega⟩ (hR _ _ _ (rV hv (k := 1) (by omega))) ?_
        refine V_iload dX5_nerveFor_38 rfl ?_
        refine V_iald (len := 10) i dX5_nerveFor_40 (sV hv (o := 2) (by omega)) ⟨by omega, by omega⟩ hx (by omega) ?_
        refine V_iadd dX5_nerveFor_41 ?_
        refine V_istore_n (L' := [_, _, _, _, _]) dX5_nerveFor_42 (by decide) rfl rfl ?_
        refine V_aload_n dX5_nerveFor_43 rfl ?_
        refine V_getr (b := (a + 3)) 5 6 dX5_nerveFor_44 (Or.inl lkX5_18) rfl (sV hv (o := 0) (by omega)) ⟨by omega, by omega⟩ (hR _ _ _ (rV hv (k := 2) (by omega))) ?_
        refine V_iload dX5_nerveFor_47 rfl ?_
        refine V_iald (len := 10) i dX5_nerveFor_49 (sV hv (o := 3) (by omega)) ⟨by omega, by omega⟩ hx (by omega) ?_
        refine V_istore_n (L' := [_, _, _, _, _]) dX5_nerveFor_50 (by decide) rfl rfl ?_
        refine V_iinc (v := _ + (1)) (L' := [_, _, _, _, _]) dX5_nerveFor_51 (by decide) rfl rfl rfl rfl ?_
        refine V_goto (tgt := 8) dX5_nerveFor_54 (by decide) ?_
        have hei := (hV.2.2.1 i (by omega)).1
        first
          | exact ih (i + 1) _ _ _ (by omega) (ix_add hx (by decide) (by omega)) (by rw [vSum, if_pos c30, hsm]) hei
          | exact ih (i + 1) _ _ _ (by omega) (ix_add hx (by decide) (by omega)) (by rw [vSum, if_neg c30, hsm]) hei
  exact loop nc 0 _ _ _ (by omega) (by decide) rfl rfl
