theorem isV.le2 {a : Nat} (h : isV a) : a = 36 ∨ (153 ≤ a ∧ a ≤ 169) := by
  rcases h with rfl | ⟨i, hi, rfl⟩ <;> omega
theorem Off.fn {S : Nat → Nat → Prop} {mi mi' : MI} (h : Off S mi mi') {a : Nat} (ha : ∀ k, ¬ S a k) : mi' a = mi a := funext fun k => h a k (ha k)
theorem vPassB_congr {f g : Nat → Int32} {c : Int32} {q : Nat} (h : ∀ k, k < 6 → f k = g k) (hc : c.toInt = (q : Int)) (hq : q < 1800) : vPassB f c = vPassB g c := by
  have hj0 : (c / 300).toInt = ((q / 300 : Nat) : Int) := divN (d := 300) hc (by decide) (by decide)
  have e : f (c / 300).toInt.toNat = g (c / 300).toInt.toNat := h _ (by rw [hj0]; have := Nat.div_lt_of_lt_mul (show q < 300 * 6 by omega); show q / 300 < 6; omega)
  unfold vPassB vPass
  rw [e]
theorem stk1_congr {f g : Nat → Int32} {c st : Int32} (h : ∀ k, k < 6 → f k = g k) (hc : okStep c) : stk1 f c st = stk1 g c st := by
  rcases hc with hc | hc | hc | ⟨q, h1, h2⟩
  · rw [stk1_m1 hc, stk1_m1 hc]
  · rw [stk1_m2 hc, stk1_m2 hc]
  · rw [stk1_m3 hc, stk1_m3 hc]
  · rw [stk1_p h1, stk1_p h1, vPassB_congr h h1 h2]
theorem evs_congr {f g s : Nat → Int32} (h : ∀ k, k < 6 → f k = g k) : ∀ (m i : Nat) (st : Int32), (∀ j, j < i + m → okStep (s j)) → evs f s i m st = evs g s i m st := by
  intro m
  induction m with
  | zero => intro i st _; rfl
  | succ m ih =>
    intro i st hs
    show evs f s (i + 1) m _ = evs g s (i + 1) m _
    rw [stk1_congr h (hs i (by omega))]
    exact ih _ _ (fun j hj => hs j (by omega))
theorem vNerve_congr {f g s nv : Nat → Int32} {e : Nat → Nat} {nc : Nat} (h : ∀ k, k < 6 → f k = g k) (hs : ∀ k, k < nc → vFrom e k ≤ e k ∧ ∀ i, i < e k → okStep (s i)) : vNerve f s nv e nc = vNerve g s nv e nc := by
  have key : ∀ k, k ≤ nc → vSum f s nv e k = vSum g s nv e k := by
    intro k
    induction k with
    | zero => intro _; rfl
    | succ k ih =>
      intro hk
      have h2 := hs k (by omega)
      have e1 : vHolds f s (vFrom e k) (e k) = vHolds g s (vFrom e k) (e k) := by
        unfold vHolds
        rw [evs_congr h _ _ _ (fun j hj => h2.2 j (by omega))]
      simp only [vSum]
      rw [e1, ih (by omega)]
  unfold vNerve
  rw [key nc (Nat.le_refl _)]
theorem vNerve_eq {f g s s' nv nv' : Nat → Int32} {e : Nat → Nat} {nc : Nat} (hs : s' = s) (hn : nv' = nv) (h : ∀ k, k < 6 → f k = g k) (ho : ∀ k, k < nc → vFrom e k ≤ e k ∧ ∀ i, i < e k → okStep (s i)) : vNerve f s nv e nc = vNerve g s' nv' e nc := by
  subst hs hn
  exact vNerve_congr h ho
def nFacts (x kind v age st h : Int32) : Nat → Int32 := fun k => match k with
  | 0 => x
  | 1 => kind
  | 2 => v
  | 3 => age / 10
  | 4 => st
  | 5 => h
  | _ => 0
def hFact (y : Int32) : Int32 := if y = -1 then 9 else y
noncomputable def cNerve (mi : MI) (w hv p : Nat) (nc : Nat) (e : Nat → Nat) (x y : Int32) : Int32 :=
  if cStage mi w hv p (cAge mi w p y) = 0 then 0 else vNerve (nFacts x (mi (w + 18 + 2 * p) 1) (mi (w + 18 + 2 * p) 2) (cAge mi w p y) (cStage mi w hv p (cAge mi w p y)) (hFact y)) (mi (hv + 1)) (mi (hv + 2)) e nc
def offF (w : Nat) : Nat → Nat → Prop := fun a _ => a = w + 17
/-- an answer, the memory the same but at S -/
def offQ (r : Option Value) (n : Nat) (mi : MI) (mr : MR) (S : Nat → Nat → Prop) : QT := fun r' n' mi' mr' => r = r' ∧ n = n' ∧ mr = mr' ∧ Off S mi mi'
theorem VOK.off {mi mi' : MI} {a nc : Nat} {e : Nat → Nat} (h : VOK mi a nc e) (h0 : mi' a = mi a) (h1 : mi' (a + 1) = mi (a + 1)) (h3 : mi' (a + 3) = mi (a + 3)) : VOK mi' a nc e := by
  unfold VOK
  rw [h0, h1, h3]
  exact h
theorem cNerve_off {mi mi' : MI} {w hv p nc : Nat} {e : Nat → Nat} {x y : Int32} (hw : isW w) (hV : isV hv) (hp : p < 6) (h : Off (offF w) mi mi') : cNerve mi' w hv p nc e x y = cNerve mi w hv p nc e x y := by
  have h1 := hw.le
  have h2 := hV.le2
  unfold cNerve cStage cAge cAgeHad cY
  rw [h.fn (a := w + 18 + 2 * p) (fun k hk => by unfold offF at hk; omega), h.fn (a := w) (fun k hk => by unfold offF at hk; omega), h.fn (a := w + 2) (fun k hk => by unfold offF at hk; omega), h.fn (a := w + 18 + 2 * p + 1) (fun k hk => by unfold offF at hk; omega), h.fn (a := hv) (fun k hk => by unfold offF at hk; omega), h.fn (a := hv + 1) (fun k hk => by unfold offF at hk; omega), h.fn (a := hv + 2) (fun k hk => by unfold offF at hk; omega)]
set_option maxRecDepth 4000 in
theorem qX6_nerveBy (n : Nat) (mi : MI) (mr : MR) (hR : RF mr) (hn : 186 ≤ n) (w : Nat) (hw : isW w) (hv : Nat) (hh : mr w 5 = some hv) (hV : isV hv) (nc : Nat) (e : Nat → Nat) (hO : VOK mi hv nc e) (x y : Int32) (p : Nat) (hx : x.toInt = (p : Int)) (hp : p < 6) (hy : okHas y) : Ct KX6_nerveBy 6 0 0 [.ref w, .int x, .int y] n mi mr (offQ (some (.int (cNerve mi w hv p nc e x y))) n mi mr (offF w)) := by
  refine Ct.of2 [some (.ref w), some (.int x), some (.int y), none, none] (by decide +kernel) (Nat.le_of_ble_eq_true rfl) rfl ?_
  have hwl := hw.le
  have hvl := hV.le2
  have hvl1 := hV.le
  refine V_aload_n dX6_nerveBy_0 rfl ?_
  refine V_iload_n dX6_nerveBy_1 rfl ?_
  refine V_iload_n dX6_nerveBy_2 rfl ?_
  refine V_callV (ci := 6) (qX6_ageBy _ _ _ hR hn _ hw _ _ _ hx hp hy) dX6_nerveBy_3 mlX6_86 mtX6_ageBy ivX6_ageBy rfl (sW hw (o := 0) (by omega)) ⟨by omega, by omega⟩ (by decide) rfl rfl (by decide) (Nat.le_of_ble_eq_true rfl) rfl rfl ?_
  rintro _ _ _ _ ⟨rfl, rfl, rfl, rfl⟩
  refine V_istore_n (L' := [_, _, _, _, _]) dX6_nerveBy_6 (by decide) rfl rfl ?_
  refine V_aload_n dX6_nerveBy_7 rfl ?_
  refine V_iload_n dX6_nerveBy_8 rfl ?_
  refine V_iload_n dX6_nerveBy_9 rfl ?_
  refine V_callV (ci := 6) (qX6_stageAt _ _ _ hR hn _ hw _ hh hV _ _ _ hx hp) dX6_nerveBy_10 mlX6_89 mtX6_stageAt ivX6_stageAt rfl (sW hw (o := 0) (by omega)) ⟨by omega, by omega⟩ (by decide) rfl rfl (by decide) (Nat.le_of_ble_eq_true rfl) rfl rfl ?_
  rintro _ _ _ _ ⟨rfl, rfl, rfl, rfl⟩
  refine V_istore (L' := [_, _, _, _, _]) dX6_nerveBy_13 (by decide) rfl rfl ?_
  refine V_iload dX6_nerveBy_15 rfl ?_
  refine V_if_ne (tgt := 22) dX6_nerveBy_17 (by decide) (fun c17 => ?_) (fun c17 => ?_)
  · refine V_aload_n dX6_nerveBy_22 rfl ?_
    refine V_getr (b := (w + 17)) 6 13 dX6_nerveBy_23 (Or.inl lkX6_49) rfl (sW hw (o := 0) (by omega)) ⟨by omega, by omega⟩ (hR _ _ _ (rW hw (o := 0) (k := 13) (by omega) (by omega) rfl)) ?_
    refine V_iconst (v := 0) dX6_nerveBy_26 rfl ?_
    refine V_iload_n dX6_nerveBy_27 rfl ?_
    refine V_iast (len := 6) 0 dX6_nerveBy_28 (sW hw (o := 17) (by omega)) ⟨by omega, by omega⟩ (by decide) (by omega) ?_
    refine V_aload_n dX6_nerveBy_29 rfl ?_
    refine V_getr (b := (w + 17)) 6 13 dX6_nerveBy_30 (Or.inl lkX6_49) rfl (sW hw (o := 0) (by omega)) ⟨by omega, by omega⟩ (hR _ _ _ (rW hw (o := 0) (k := 13) (by omega) (by omega) rfl)) ?_
    refine V_iconst (v := 1) dX6_nerveBy_33 rfl ?_
    refine V_aload_n dX6_nerveBy_34 rfl ?_
    refine V_getr (b := (w + 1)) 6 6 dX6_nerveBy_35 (Or.inl lkX6_17) rfl (sW hw (o := 0) (by omega)) ⟨by omega, by omega⟩ (hR _ _ _ (rW hw (o := 0) (k := 6) (by omega) (by omega) rfl)) ?_
    refine V_iload_n dX6_nerveBy_38 rfl ?_
    refine V_aald (len := 6) (b := (w + 18 + 2 * p)) 5 p dX6_nerveBy_39 (sW hw (o := 1) (by omega)) rfl ⟨by omega, by omega⟩ hx (by omega) (hR _ _ _ (rFolk hw (by omega))) ?_
    refine V_geti 1 1 dX6_nerveBy_40 lnX6_102 rfl (sP (pOf hw (by omega))) ⟨by omega, by omega⟩ ?_
    refine V_iast (len := 6) 1 dX6_nerveBy_43 (sW hw (o := 17) (by omega)) ⟨by omega, by omega⟩ (by decide) (by omega) ?_
    refine V_aload_n dX6_nerveBy_44 rfl ?_
    refine V_getr (b := (w + 17)) 6 13 dX6_nerveBy_45 (Or.inl lkX6_49) rfl (sW hw (o := 0) (by omega)) ⟨by omega, by omega⟩ (hR _ _ _ (rW hw (o := 0) (k := 13) (by omega) (by omega) rfl)) ?_
    refine V_iconst (v := 2) dX6_nerveBy_48 rfl ?_
    refine V_aload_n dX6_nerveBy_49 rfl ?_
    refine V_getr (b := (w + 1)) 6 6 dX6_nerveBy_50 (Or.inl lkX6_17) rfl (sW hw (o := 0) (by omega)) ⟨by omega, by omega⟩ (hR _ _ _ (rW hw (o := 0) (k := 6) (by omega) (by omega) rfl)) ?_
    refine V_iload_n dX6_nerveBy_53 rfl ?_
    refine V_aald (len := 6) (b := (w + 18 + 2 * p)) 5 p dX6_nerveBy_54 (sW hw (o := 1) (by omega)) rfl ⟨by omega, by omega⟩ hx (by omega) (hR _ _ _ (rFolk hw (by omega))) ?_
    refine V_geti 1 2 dX6_nerveBy_55 lnX6_105 rfl (sP (pOf hw (by omega))) ⟨by omega, by omega⟩ ?_
    refine V_iast (len := 6) 2 dX6_nerveBy_58 (sW hw (o := 17) (by omega)) ⟨by omega, by omega⟩ (by decide) (by omega) ?_
    refine V_aload_n dX6_nerveBy_59 rfl ?_
    refine V_getr (b := (w + 17)) 6 13 dX6_nerveBy_60 (Or.inl lkX6_49) rfl (sW hw (o := 0) (by omega)) ⟨by omega, by omega⟩ (hR _ _ _ (rW hw (o := 0) (k := 13) (by omega) (by omega) rfl)) ?_
    refine V_iconst (v := 3) dX6_nerveBy_63 rfl ?_
    have hst0 := c17
    refine V_iload_n dX6_nerveBy_64 rfl ?_
    refine V_bipush (v := 10) dX6_nerveBy_65 rfl ?_
    refine V_idiv dX6_nerveBy_67 (by decide) ?_
    refine V_iast (len := 6) 3 dX6_nerveBy_68 (sW hw (o := 17) (by omega)) ⟨by omega, by omega⟩ (by decide) (by omega) ?_
    refine V_aload_n dX6_nerveBy_69 rfl ?_
    refine V_getr (b := (w + 17)) 6 13 dX6_nerveBy_70 (Or.inl lkX6_49) rfl (sW hw (o := 0) (by omega)) ⟨by omega, by omega⟩ (hR _ _ _ (rW hw (o := 0) (k := 13) (by omega) (by omega) rfl)) ?_
    refine V_iconst (v := 4) dX6_nerveBy_73 rfl ?_
    refine V_iload dX6_nerveBy_74 rfl ?_
    refine V_iast (len := 6) 4 dX6_nerveBy_76 (sW hw (o := 17) (by omega)) ⟨by omega, by omega⟩ (by decide) (by omega) ?_
    refine V_aload_n dX6_nerveBy_77 rfl ?_
    refine V_getr (b := (w + 17)) 6 13 dX6_nerveBy_78 (Or.inl lkX6_49) rfl (sW hw (o := 0) (by omega)) ⟨by omega, by omega⟩ (hR _ _ _ (rW hw (o := 0) (k := 13) (by omega) (by omega) rfl)) ?_
    refine V_iconst (v := 5) dX6_nerveBy_81 rfl ?_
    refine V_iload_n dX6_nerveBy_82 rfl ?_
    refine V_iconst (v := -1) dX6_nerveBy_83 rfl ?_
    refine V_icmp_ne (tgt := 92) dX6_nerveBy_84 (by decide) (fun c84 => ?_) (fun c84 => ?_)
    · refine V_iload_n dX6_nerveBy_92 rfl ?_
      refine V_iast (len := 6) 5 dX6_nerveBy_93 (sW hw (o := 17) (by omega)) ⟨by omega, by omega⟩ (by decide) (by omega) ?_
      refine V_aload_n dX6_nerveBy_94 rfl ?_
      refine V_getr (b := hv) 6 5 dX6_nerveBy_95 (Or.inl lkX6_52) rfl (sW hw (o := 0) (by omega)) ⟨by omega, by omega⟩ hh ?_
      refine V_aload_n dX6_nerveBy_98 rfl ?_
      refine V_getr (b := (w + 17)) 6 13 dX6_nerveBy_99 (Or.inl lkX6_49) rfl (sW hw (o := 0) (by omega)) ⟨by omega, by omega⟩ (hR _ _ _ (rW hw (o := 0) (k := 13) (by omega) (by omega) rfl)) ?_
      refine V_callV (ci := 5) (qX5_nerveFor _ _ _ hR hn (w + 17) (sW hw (o := 17) (by omega)) ⟨by omega, by omega⟩ _ hV nc e (by refine hO.off ?_ ?_ ?_ <;> (funext k; simp only [up2]; repeat rw [if_neg (by omega)]))) dX6_nerveBy_102 mlX6_108 mtX5_nerveFor ivX5_nerveFor rfl (sV hV (o := 0) (by omega)) ⟨by omega, by omega⟩ (by decide) rfl rfl (by decide) (Nat.le_of_ble_eq_true rfl) rfl rfl ?_
      rintro _ _ _ _ ⟨rfl, rfl, rfl, rfl⟩
      refine V_iret dX6_nerveBy_105 rfl rfl ?_
      refine ⟨?_, rfl, rfl, ?_⟩
      · unfold cNerve
        rw [if_neg c17]
        have hne : ¬ (w + 18 + 2 * p = w + 17) := by omega
        have hne2 : ¬ (w = w + 17) := by omega
        refine congrArg (fun z => some (Value.int z)) (vNerve_eq ?_ ?_ ?_ (fun k hk => ⟨hO.2.2.2 k hk, (hO.2.2.1 k hk).2.2⟩))
        · funext k
          simp only [up2]
          repeat rw [if_neg (by omega)]
        · funext k
          simp only [up2]
          repeat rw [if_neg (by omega)]
        · intro k hk
          have hk2 : k = 0 ∨ k = 1 ∨ k = 2 ∨ k = 3 ∨ k = 4 ∨ k = 5 := by omega
          rcases hk2 with rfl | rfl | rfl | rfl | rfl | rfl <;> simp [nFacts, up2, hFact, c84, hne, hne2]
      · intro a k hak
        unfold offF at hak
        simp only [up2]
        repeat rw [if_neg (by omega)]
    · refine V_bipush (v := 9) dX6_nerveBy_87 rfl ?_
      refine V_goto (tgt := 93) dX6_nerveBy_89 (by decide) ?_
      refine V_iast (len := 6) 5 dX6_nerveBy_93 (sW hw (o := 17) (by omega)) ⟨by omega, by omega⟩ (by decide) (by omega) ?_
      refine V_aload_n dX6_nerveBy_94 rfl ?_
      refine V_getr (b := hv) 6 5 dX6_nerveBy_95 (Or.inl lkX6_52) rfl (sW hw (o := 0) (by omega)) ⟨by omega, by omega⟩ hh ?_
      refine V_aload_n dX6_nerveBy_98 rfl ?_
      refine V_getr (b := (w + 17)) 6 13 dX6_nerveBy_99 (Or.inl lkX6_49) rfl (sW hw (o := 0) (by omega)) ⟨by omega, by omega⟩ (hR _ _ _ (rW hw (o := 0) (k := 13) (by omega) (by omega) rfl)) ?_
      refine V_callV (ci := 5) (qX5_nerveFor _ _ _ hR hn (w + 17) (sW hw (o := 17) (by omega)) ⟨by omega, by omega⟩ _ hV nc e (by refine hO.off ?_ ?_ ?_ <;> (funext k; simp only [up2]; repeat rw [if_neg (by omega)]))) dX6_nerveBy_102 mlX6_108 mtX5_nerveFor ivX5_nerveFor rfl (sV hV (o := 0) (by omega)) ⟨by omega, by omega⟩ (by decide) rfl rfl (by decide) (Nat.le_of_ble_eq_true rfl) rfl rfl ?_
      rintro _ _ _ _ ⟨rfl, rfl, rfl, rfl⟩
      refine V_iret dX6_nerveBy_105 rfl rfl ?_
      refine ⟨?_, rfl, rfl, ?_⟩
      · unfold cNerve
        rw [if_neg c17]
        have hne : ¬ (w + 18 + 2 * p = w + 17) := by omega
        have hne2 : ¬ (w = w + 17) := by omega
        refine congrArg (fun z => some (Value.int z)) (vNerve_eq ?_ ?_ ?_ (fun k hk => ⟨hO.2.2.2 k hk, (hO.2.2.1 k hk).2.2⟩))
        · funext k
          simp only [up2]
          repeat rw [if_neg (by omega)]
        · funext k
          simp only [up2]
          repeat rw [if_neg (by omega)]
        · intro k hk
          have hk2 : k = 0 ∨ k = 1 ∨ k = 2 ∨ k = 3 ∨ k = 4 ∨ k = 5 := by omega
          rcases hk2 with rfl | rfl | rfl | rfl | rfl | rfl <;> simp [nFacts, up2, hFact, c84, hne, hne2]
      · intro a k hak
        unfold offF at hak
        simp only [up2]
        repeat rw [if_neg (by omega)]
  · refine V_iconst (v := 0) dX6_nerveBy_20 rfl ?_
    refine V_iret dX6_nerveBy_21 rfl rfl ?_
    refine ⟨?_, rfl, rfl, Off.rf⟩
    unfold cNerve
    rw [if_pos c17]
def cHas (mi : MI) (w p : Nat) : Int32 := mi (w + 18 + 2 * p) 5
def cHere (mi : MI) (w hv p : Nat) : Bool := decide (0 < cStage mi w hv p (cAge mi w p (cHas mi w p)))
noncomputable def cNerveOf (mi : MI) (w hv nc : Nat) (e : Nat → Nat) (p : Nat) : Int32 := cNerve mi w hv p nc e (nI p) (cHas mi w p)
set_option maxRecDepth 4000 in
theorem qX6_whoIsHere (n : Nat) (mi : MI) (mr : MR) (hR : RF mr) (hn : 186 ≤ n) (w : Nat) (hw : isW w) (hv : Nat) (hh : mr w 5 = some hv) (hV : isV hv) (N : Nat) (hN : (mi w 1).toInt = (N : Int)) (hN6 : N ≤ 6) (hHas : ∀ p, p < N → okHas (mi (w + 18 + 2 * p) 5))  : Ct KX6_whoIsHere 6 0 0 [.ref w] n mi mr (eqQ (some (.int (bitsTo (cHere mi w hv) N))) n mi mr) := by
  refine Ct.of2 [some (.ref w), none, none] (by decide +kernel) (Nat.le_of_ble_eq_true rfl) rfl ?_
  have hwl := hw.le
  have hvl := hV.le2
  have hvl1 := hV.le
  refine V_iconst (v := 0) dX6_whoIsHere_0 rfl ?_
  refine V_istore_n (L' := [_, _, _]) dX6_whoIsHere_1 (by decide) rfl rfl ?_
  refine V_iconst (v := 0) dX6_whoIsHere_2 rfl ?_
  refine V_istore_n (L' := [_, _, _]) dX6_whoIsHere_3 (by decide) rfl rfl ?_
  have loop : ∀ (m i : Nat) (acc x : Int32), i + m = N → x.toInt = (i : Int) → acc = bitsTo (cHere mi w hv) i → V KX6_whoIsHere 6 0 0 (eqQ (some (.int (bitsTo (cHere mi w hv) N))) n mi mr) 4 [some (.ref w), some (.int acc), some (.int x)] [] n mi mr := by
    intro m
    induction m with
    | zero =>
      intro i acc x him hx ha
      refine V_iload_n dX6_whoIsHere_4 rfl ?_
      refine V_aload_n dX6_whoIsHere_5 rfl ?_
      refine V_geti 6 1 dX6_whoIsHere_6 (Or.inl lkX6_57) rfl (sW hw (o := 0) (by omega)) ⟨by omega, by omega⟩ ?_
      refine V_icmp_ge (tgt := 41) dX6_whoIsHere_9 (by decide) (fun c9 => ?_) (fun c9 => absurd ((le_nat hN hx).mpr (by omega)) c9)
      refine V_iload_n dX6_whoIsHere_41 rfl ?_
      refine V_iret dX6_whoIsHere_42 rfl rfl ?_
      have hi : i = N := by omega
      subst hi
      exact ⟨by rw [ha], rfl, rfl, rfl⟩
    | succ m ih =>
      intro i acc x him hx ha
      refine V_iload_n dX6_whoIsHere_4 rfl ?_
      refine V_aload_n dX6_whoIsHere_5 rfl ?_
      refine V_geti 6 1 dX6_whoIsHere_6 (Or.inl lkX6_57) rfl (sW hw (o := 0) (by omega)) ⟨by omega, by omega⟩ ?_
      refine V_icmp_ge (tgt := 41) dX6_whoIsHere_9 (by decide) (fun c9 => absurd ((le_nat hN hx).mp c9) (by omega)) (fun c9 => ?_)
      refine V_aload_n dX6_whoIsHere_12 rfl ?_
      refine V_iload_n dX6_whoIsHere_13 rfl ?_
      refine V_aload_n dX6_whoIsHere_14 rfl ?_
      refine V_getr (b := (w + 1)) 6 6 dX6_whoIsHere_15 (Or.inl lkX6_17) rfl (sW hw (o := 0) (by omega)) ⟨by omega, by omega⟩ (hR _ _ _ (rW hw (o := 0) (k := 6) (by omega) (by omega) rfl)) ?_
      refine V_iload_n dX6_whoIsHere_18 rfl ?_
      refine V_aald (len := 6) (b := (w + 18 + 2 * i)) 5 i dX6_whoIsHere_19 (sW hw (o := 1) (by omega)) rfl ⟨by omega, by omega⟩ hx (by omega) (hR _ _ _ (rFolk hw (by omega))) ?_
      refine V_geti 1 5 dX6_whoIsHere_20 lnX6_112 rfl (sP (pOf hw (by omega))) ⟨by omega, by omega⟩ ?_
      refine V_callV (ci := 6) (qX6_stageBy _ _ _ hR hn _ hw _ hh hV _ _ i hx (by omega) (hHas i (by omega))) dX6_whoIsHere_23 mlX6_115 mtX6_stageBy ivX6_stageBy rfl (sW hw (o := 0) (by omega)) ⟨by omega, by omega⟩ (by decide) rfl rfl (by decide) (Nat.le_of_ble_eq_true rfl) rfl rfl ?_
      rintro _ _ _ _ ⟨rfl, rfl, rfl, rfl⟩
      refine V_if_le (tgt := 35) dX6_whoIsHere_26 (by decide) (fun c26 => ?_) (fun c26 => ?_)
      · refine V_iinc (v := _ + (1)) (L' := [_, _, _]) dX6_whoIsHere_35 (by decide) rfl rfl rfl rfl ?_
        refine V_goto (tgt := 4) dX6_whoIsHere_38 (by decide) ?_
        first
          | exact ih (i + 1) _ _ (by omega) (ix_add hx (by decide) (by omega)) (by rw [bitsTo, if_pos (show cHere mi w hv i = true from decide_eq_true (Int32.not_le.mp c26)), ha, nI_of_toInt hx])
          | exact ih (i + 1) _ _ (by omega) (ix_add hx (by decide) (by omega)) (by rw [bitsTo, if_neg (show ¬ cHere mi w hv i = true from fun h => absurd (of_decide_eq_true h) (Int32.not_lt.mpr c26)), ha])
      · refine V_iload_n dX6_whoIsHere_29 rfl ?_
        refine V_iconst (v := 1) dX6_whoIsHere_30 rfl ?_
        refine V_iload_n dX6_whoIsHere_31 rfl ?_
        refine V_ishl dX6_whoIsHere_32 ?_
        refine V_ior dX6_whoIsHere_33 ?_
        refine V_istore_n (L' := [_, _, _]) dX6_whoIsHere_34 (by decide) rfl rfl ?_
        refine V_iinc (v := _ + (1)) (L' := [_, _, _]) dX6_whoIsHere_35 (by decide) rfl rfl rfl rfl ?_
        refine V_goto (tgt := 4) dX6_whoIsHere_38 (by decide) ?_
        first
          | exact ih (i + 1) _ _ (by omega) (ix_add hx (by decide) (by omega)) (by rw [bitsTo, if_pos (show cHere mi w hv i = true from decide_eq_true (Int32.not_le.mp c26)), ha, nI_of_toInt hx])
          | exact ih (i + 1) _ _ (by omega) (ix_add hx (by decide) (by omega)) (by rw [bitsTo, if_neg (show ¬ cHere mi w hv i = true from fun h => absurd (of_decide_eq_true h) (Int32.not_lt.mpr c26)), ha])
  exact loop N 0 _ _ (by omega) (by decide) rfl
set_option maxRecDepth 4000 in
theorem qX6_nerveOfAll (n : Nat) (mi : MI) (mr : MR) (hR : RF mr) (hn : 186 ≤ n) (w : Nat) (hw : isW w) (hv : Nat) (hh : mr w 5 = some hv) (hV : isV hv) (nc : Nat) (e : Nat → Nat) (hO : VOK mi hv nc e) (N : Nat) (hN : (mi w 1).toInt = (N : Int)) (hN6 : N ≤ 6) (hHas : ∀ p, p < N → okHas (mi (w + 18 + 2 * p) 5))  : Ct KX6_nerveOfAll 7 0 0 [.ref w] n mi mr (offQ (some (.int (sumTo (cNerveOf mi w hv nc e) N))) n mi mr (offF w)) := by
  refine Ct.of2 [some (.ref w), none, none] (by decide +kernel) (Nat.le_of_ble_eq_true rfl) rfl ?_
  have hwl := hw.le
  have hvl := hV.le2
  have hvl1 := hV.le
  refine V_iconst (v := 0) dX6_nerveOfAll_0 rfl ?_
  refine V_istore_n (L' := [_, _, _]) dX6_nerveOfAll_1 (by decide) rfl rfl ?_
  refine V_iconst (v := 0) dX6_nerveOfAll_2 rfl ?_
  refine V_istore_n (L' := [_, _, _]) dX6_nerveOfAll_3 (by decide) rfl rfl ?_
  have loop : ∀ (m i : Nat) (acc x : Int32) (mj : MI), Off (offF w) mi mj → i + m = N → x.toInt = (i : Int) → acc = sumTo (cNerveOf mi w hv nc e) i → V KX6_nerveOfAll 7 0 0 (offQ (some (.int (sumTo (cNerveOf mi w hv nc e) N))) n mi mr (offF w)) 4 [some (.ref w), some (.int acc), some (.int x)] [] n mj mr := by
    intro m
    induction m with
    | zero =>
      intro i acc x mj hoff him hx ha
      have hfn : ∀ a, a ≠ w + 17 → mj a = mi a := fun a ha => hoff.fn (fun k hk => ha hk)
      refine V_iload_n dX6_nerveOfAll_4 rfl ?_
      refine V_aload_n dX6_nerveOfAll_5 rfl ?_
      refine V_geti 6 1 dX6_nerveOfAll_6 (Or.inl lkX6_57) rfl (sW hw (o := 0) (by omega)) ⟨by omega, by omega⟩ ?_
      refine V_icmp_ge (tgt := 35) dX6_nerveOfAll_9 (by decide) (fun c9 => ?_) (fun c9 => absurd ((le_nat (by rw [hfn w (by omega)]; exact hN) hx).mpr (by omega)) c9)
      refine V_iload_n dX6_nerveOfAll_35 rfl ?_
      refine V_iret dX6_nerveOfAll_36 rfl rfl ?_
      have hi : i = N := by omega
      subst hi
      exact ⟨by rw [ha], rfl, rfl, hoff⟩
    | succ m ih =>
      intro i acc x mj hoff him hx ha
      have hfn : ∀ a, a ≠ w + 17 → mj a = mi a := fun a ha => hoff.fn (fun k hk => ha hk)
      refine V_iload_n dX6_nerveOfAll_4 rfl ?_
      refine V_aload_n dX6_nerveOfAll_5 rfl ?_
      refine V_geti 6 1 dX6_nerveOfAll_6 (Or.inl lkX6_57) rfl (sW hw (o := 0) (by omega)) ⟨by omega, by omega⟩ ?_
      refine V_icmp_ge (tgt := 35) dX6_nerveOfAll_9 (by decide) (fun c9 => absurd ((le_nat (by rw [hfn w (by omega)]; exact hN) hx).mp c9) (by omega)) (fun c9 => ?_)
      refine V_iload_n dX6_nerveOfAll_12 rfl ?_
      refine V_aload_n dX6_nerveOfAll_13 rfl ?_
      refine V_iload_n dX6_nerveOfAll_14 rfl ?_
      refine V_aload_n dX6_nerveOfAll_15 rfl ?_
      refine V_getr (b := (w + 1)) 6 6 dX6_nerveOfAll_16 (Or.inl lkX6_17) rfl (sW hw (o := 0) (by omega)) ⟨by omega, by omega⟩ (hR _ _ _ (rW hw (o := 0) (k := 6) (by omega) (by omega) rfl)) ?_
      refine V_iload_n dX6_nerveOfAll_19 rfl ?_
      refine V_aald (len := 6) (b := (w + 18 + 2 * i)) 5 i dX6_nerveOfAll_20 (sW hw (o := 1) (by omega)) rfl ⟨by omega, by omega⟩ hx (by omega) (hR _ _ _ (rFolk hw (by omega))) ?_
      refine V_geti 1 5 dX6_nerveOfAll_21 lnX6_112 rfl (sP (pOf hw (by omega))) ⟨by omega, by omega⟩ ?_
      refine V_callV (ci := 6) (qX6_nerveBy _ mj _ hR hn _ hw _ hh hV nc e (hO.off (hfn _ (by omega)) (hfn _ (by omega)) (hfn _ (by omega))) _ _ i hx (by omega) (by rw [hfn _ (by omega)]; exact hHas i (by omega))) dX6_nerveOfAll_24 mlX6_118 mtX6_nerveBy ivX6_nerveBy rfl (sW hw (o := 0) (by omega)) ⟨by omega, by omega⟩ (by decide) rfl rfl (by decide) (Nat.le_of_ble_eq_true rfl) rfl rfl ?_
      rintro _ _ mk _ ⟨rfl, rfl, rfl, hoff2⟩
      refine V_iadd dX6_nerveOfAll_27 ?_
      refine V_istore_n (L' := [_, _, _]) dX6_nerveOfAll_28 (by decide) rfl rfl ?_
      refine V_iinc (v := _ + (1)) (L' := [_, _, _]) dX6_nerveOfAll_29 (by decide) rfl rfl rfl rfl ?_
      refine V_goto (tgt := 4) dX6_nerveOfAll_32 (by decide) ?_
      refine ih (i + 1) _ _ mk (hoff.tr hoff2) (by omega) (ix_add hx (by decide) (by omega)) ?_
      rw [sumTo, ha, cNerve_off hw hV (by omega) hoff, hfn (w + 18 + 2 * i) (by omega), nI_of_toInt hx]
      rfl
  exact loop N 0 _ _ mi Off.rf (by omega) (by decide) rfl
set_option maxRecDepth 4000 in
theorem qX6_bottlesInAll (n : Nat) (mi : MI) (mr : MR) (hR : RF mr) (hn : 186 ≤ n) (w : Nat) (hw : isW w) (Nv : Nat) (hNv : (mi w 2).toInt = (Nv : Int)) (hNv5 : Nv ≤ 5)  : Ct KX6_bottlesInAll 1 0 0 [.ref w] n mi mr (eqQ (some (.int (sumTo (mi (w + 3)) Nv))) n mi mr) := by
  refine Ct.of2 [some (.ref w), none, none] (by decide +kernel) (Nat.le_of_ble_eq_true rfl) rfl ?_
  have hwl := hw.le
  refine V_iconst (v := 0) dX6_bottlesInAll_0 rfl ?_
  refine V_istore_n (L' := [_, _, _]) dX6_bottlesInAll_1 (by decide) rfl rfl ?_
  refine V_iconst (v := 0) dX6_bottlesInAll_2 rfl ?_
  refine V_istore_n (L' := [_, _, _]) dX6_bottlesInAll_3 (by decide) rfl rfl ?_
  have loop : ∀ (m i : Nat) (acc x : Int32), i + m = Nv → x.toInt = (i : Int) → acc = sumTo (mi (w + 3)) i → V KX6_bottlesInAll 1 0 0 (eqQ (some (.int (sumTo (mi (w + 3)) Nv))) n mi mr) 4 [some (.ref w), some (.int acc), some (.int x)] [] n mi mr := by
    intro m
    induction m with
    | zero =>
      intro i acc x him hx ha
      refine V_iload_n dX6_bottlesInAll_4 rfl ?_
      refine V_aload_n dX6_bottlesInAll_5 rfl ?_
      refine V_geti 6 2 dX6_bottlesInAll_6 (Or.inl lkX6_60) rfl (sW hw (o := 0) (by omega)) ⟨by omega, by omega⟩ ?_
      refine V_icmp_ge (tgt := 27) dX6_bottlesInAll_9 (by decide) (fun c9 => ?_) (fun c9 => absurd ((le_nat hNv hx).mpr (by omega)) c9)
      refine V_iload_n dX6_bottlesInAll_27 rfl ?_
      refine V_iret dX6_bottlesInAll_28 rfl rfl ?_
      have hi : i = Nv := by omega
      subst hi
      exact ⟨by rw [ha], rfl, rfl, rfl⟩
    | succ m ih =>
      intro i acc x him hx ha
      refine V_iload_n dX6_bottlesInAll_4 rfl ?_
      refine V_aload_n dX6_bottlesInAll_5 rfl ?_
      refine V_geti 6 2 dX6_bottlesInAll_6 (Or.inl lkX6_60) rfl (sW hw (o := 0) (by omega)) ⟨by omega, by omega⟩ ?_
      refine V_icmp_ge (tgt := 27) dX6_bottlesInAll_9 (by decide) (fun c9 => absurd ((le_nat hNv hx).mp c9) (by omega)) (fun c9 => ?_)
      refine V_iload_n dX6_bottlesInAll_12 rfl ?_
      refine V_aload_n dX6_bottlesInAll_13 rfl ?_
      refine V_getr (b := (w + 3)) 6 8 dX6_bottlesInAll_14 (Or.inl lkX6_25) rfl (sW hw (o := 0) (by omega)) ⟨by omega, by omega⟩ (hR _ _ _ (rW hw (o := 0) (k := 8) (by omega) (by omega) rfl)) ?_
      refine V_iload_n dX6_bottlesInAll_17 rfl ?_
      refine V_iald (len := 5) i dX6_bottlesInAll_18 (sW hw (o := 3) (by omega)) ⟨by omega, by omega⟩ hx (by omega) ?_
      refine V_iadd dX6_bottlesInAll_19 ?_
      refine V_istore_n (L' := [_, _, _]) dX6_bottlesInAll_20 (by decide) rfl rfl ?_
      refine V_iinc (v := _ + (1)) (L' := [_, _, _]) dX6_bottlesInAll_21 (by decide) rfl rfl rfl rfl ?_
      refine V_goto (tgt := 4) dX6_bottlesInAll_24 (by decide) ?_
      exact ih (i + 1) _ _ (by omega) (ix_add hx (by decide) (by omega)) (by rw [sumTo, ha])
  exact loop Nv 0 _ _ (by omega) (by decide) rfl
set_option maxRecDepth 4000 in
theorem qX6_addVintage (n : Nat) (mi : MI) (mr : MR) (hR : RF mr) (hn : 186 ≤ n) (w : Nat) (hw : isW w) (Nv : Nat) (hNv : (mi w 2).toInt = (Nv : Int)) (hNv5 : Nv ≤ 5) (hNv4 : Nv < 5) (y b : Int32) : Ct KX6_addVintage 1 0 0 [.ref w, .int y, .int b] n mi mr (eqQ (some (.int (mi w 2))) n (up2 (up2 (up2 mi (w + 2) Nv y) (w + 3) Nv b) w 2 (mi w 2 + 1)) mr) := by
  refine Ct.of2 [some (.ref w), some (.int y), some (.int b)] (by decide +kernel) (Nat.le_of_ble_eq_true rfl) rfl ?_
  have hwl := hw.le
  refine V_aload_n dX6_addVintage_0 rfl ?_
  refine V_getr (b := (w + 2)) 6 7 dX6_addVintage_1 (Or.inl lkX6_21) rfl (sW hw (o := 0) (by omega)) ⟨by omega, by omega⟩ (hR _ _ _ (rW hw (o := 0) (k := 7) (by omega) (by omega) rfl)) ?_
  refine V_aload_n dX6_addVintage_4 rfl ?_
  refine V_geti 6 2 dX6_addVintage_5 (Or.inl lkX6_60) rfl (sW hw (o := 0) (by omega)) ⟨by omega, by omega⟩ ?_
  refine V_iload_n dX6_addVintage_8 rfl ?_
  refine V_iast (len := 5) Nv dX6_addVintage_9 (sW hw (o := 2) (by omega)) ⟨by omega, by omega⟩ (by (try simp only [up2]); (repeat rw [if_neg (by omega)]); exact hNv) (by omega) ?_
  refine V_aload_n dX6_addVintage_10 rfl ?_
  refine V_getr (b := (w + 3)) 6 8 dX6_addVintage_11 (Or.inl lkX6_25) rfl (sW hw (o := 0) (by omega)) ⟨by omega, by omega⟩ (hR _ _ _ (rW hw (o := 0) (k := 8) (by omega) (by omega) rfl)) ?_
  refine V_aload_n dX6_addVintage_14 rfl ?_
  refine V_geti 6 2 dX6_addVintage_15 (Or.inl lkX6_60) rfl (sW hw (o := 0) (by omega)) ⟨by omega, by omega⟩ ?_
  refine V_iload_n dX6_addVintage_18 rfl ?_
  refine V_iast (len := 5) Nv dX6_addVintage_19 (sW hw (o := 3) (by omega)) ⟨by omega, by omega⟩ (by (try simp only [up2]); (repeat rw [if_neg (by omega)]); exact hNv) (by omega) ?_
  refine V_aload_n dX6_addVintage_20 rfl ?_
  refine V_dup dX6_addVintage_21 rfl ?_
  refine V_geti 6 2 dX6_addVintage_22 (Or.inl lkX6_60) rfl (sW hw (o := 0) (by omega)) ⟨by omega, by omega⟩ ?_
  refine V_dup_x1 dX6_addVintage_25 rfl rfl ?_
  refine V_iconst (v := 1) dX6_addVintage_26 rfl ?_
  refine V_iadd dX6_addVintage_27 ?_
  refine V_puti 6 2 dX6_addVintage_28 (Or.inl lkX6_60) rfl rfl rfl (sW hw (o := 0) (by omega)) ⟨by omega, by omega⟩ ?_
  refine V_iret dX6_addVintage_31 rfl rfl ?_
  have hv2 : up2 (up2 mi (w + 2) Nv y) (w + 3) Nv b w 2 = mi w 2 := by simp only [up2]; repeat rw [if_neg (by omega)]
  exact ⟨by rw [hv2], rfl, by rw [hv2], rfl⟩
