/-- what one has by a choice: 0 is none -/
def sCh (k : Nat) : Int32 := nI k - 1
theorem sCh_0 : sCh 0 = -1 := by decide
theorem sCh_s {k : Nat} (h : k < 1000) : (sCh (k + 1)).toInt = (k : Int) := by
  unfold sCh
  have e : (nI (k + 1)).toInt = ((k + 1 : Nat) : Int) := nI_toInt (by omega)
  rw [i_sub e (b := 1) (by decide) (by omega)]
  omega
theorem sCh_in {k w : Nat} (h : k ≤ w) (hw : w ≤ 5) : hasIn (sCh k) w := by
  cases k with
  | zero => exact Or.inl sCh_0
  | succ k => exact Or.inr ⟨k, sCh_s (by omega), by omega⟩
def qA (S : Nat → Int32) (p k : Nat) : Int := (sAge S p (sCh k)).toInt
noncomputable def qB (S : Nat → Int32) (nc : Nat) (e : Nat → Nat) (s nv : Nat → Int32) (sort p k : Nat) : Int := if sort = 2 then (sNerve S nc e s nv p (nI p) (sCh k)).toInt else 0
def qHere (S : Nat → Int32) (p k : Nat) : Bool := decide (sHereAt S p (sAge S p (sCh k)))
def qF (S : Nat → Int32) (sort : Nat) (set : Int32) (p k : Nat) : Bool := decide (sort = 2) || (qHere S p k == decide (sort = 1 ∨ (set >>> (nI p &&& 31)) &&& 1 = 1))
def qL (S : Nat → Int32) : Nat → Nat
  | 0 => 6
  | k + 1 => (S (7 + k)).toNatClampNeg
noncomputable def qM (S : Nat → Int32) (nc : Nat) (e : Nat → Nat) (s nv : Nat → Int32) (sort : Nat) (set : Int32) : Nat → Nat → Bool := mayB sort (qF S sort set) (qA S) (qB S nc e s nv sort) (qL S)
theorem qF_2 {S : Nat → Int32} {sort : Nat} {set : Int32} {p k : Nat} (h : sort = 2) : qF S sort set p k = true := by
  unfold qF
  rw [decide_eq_true h]
  rfl
theorem qF_iff {S : Nat → Int32} {sort : Nat} {set : Int32} {p k : Nat} (h : ¬ sort = 2) : qF S sort set p k = true ↔ (qHere S p k = true ↔ (sort = 1 ∨ (set >>> (nI p &&& 31)) &&& 1 = 1)) := by
  unfold qF
  rw [decide_eq_false h, Bool.false_or]
  by_cases h2 : sort = 1 ∨ (set >>> (nI p &&& 31)) &&& 1 = 1
  · rw [decide_eq_true h2]
    cases e : qHere S p k with
    | true => exact ⟨fun _ => ⟨fun _ => h2, fun _ => rfl⟩, fun _ => rfl⟩
    | false => exact ⟨fun q => Bool.noConfusion q, fun q => Bool.noConfusion (q.mpr h2)⟩
  · rw [decide_eq_false h2]
    cases e : qHere S p k with
    | true => exact ⟨fun q => Bool.noConfusion q, fun q => absurd (q.mp rfl) h2⟩
    | false => exact ⟨fun _ => ⟨fun q => Bool.noConfusion q, fun q => absurd q h2⟩, fun _ => rfl⟩
theorem b01_1 {c : Prop} [Decidable c] : b01 c = 1 ↔ c := by unfold b01; by_cases h : c <;> simp [h]
theorem vSum_bd {f s nv : Nat → Int32} {e : Nat → Nat} : ∀ {k : Nat}, k ≤ 10 → (∀ j, j < k → -99 ≤ (nv j).toInt ∧ (nv j).toInt ≤ 99) → 10 - 99 * (k : Int) ≤ (vSum f s nv e k).toInt ∧ (vSum f s nv e k).toInt ≤ 10 + 99 * (k : Int)
  | 0, _, _ => by show 10 - 99 * 0 ≤ (10 : Int32).toInt ∧ (10 : Int32).toInt ≤ 10 + 99 * 0; decide
  | k + 1, hk, h => by
    have q := vSum_bd (f := f) (s := s) (nv := nv) (e := e) (k := k) (by omega) (fun j hj => h j (by omega))
    have r := h k (by omega)
    unfold vSum
    split
    · omega
    · rw [i_add rfl rfl (by omega)]
      omega
theorem vNerve_bd {f s nv : Nat → Int32} {e : Nat → Nat} {k : Nat} (hk : k ≤ 10) (h : ∀ j, j < k → -99 ≤ (nv j).toInt ∧ (nv j).toInt ≤ 99) : 0 ≤ (vNerve f s nv e k).toInt ∧ (vNerve f s nv e k).toInt ≤ 1000 := by
  have q := vSum_bd (f := f) (s := s) (nv := nv) (e := e) hk h
  unfold vNerve
  split
  · rename_i h1
    rw [Int32.lt_iff_toInt_lt] at h1
    simp only [Int32.reduceToInt] at h1
    omega
  · decide
theorem mark_bd {m v : Int32} (h : markOK m v) : -99 ≤ v.toInt ∧ v.toInt ≤ 99 := by
  rcases h with ⟨q, h1, h2, h3⟩ | ⟨q, h1, h2, h3⟩ <;> omega
theorem MV.nv {S : Nat → Int32} {nc : Nat} {e : Nat → Nat} {s nv : Nat → Int32} {b : Nat} (h : MV S nc e s nv b) : nc ≤ 10 ∧ ∀ j, j < nc → -99 ≤ (nv j).toInt ∧ (nv j).toInt ≤ 99 := ⟨h.2.2.2.1, fun j hj => mark_bd (h.2.2.2.2 j hj).2.2.2.2.1⟩
theorem sNerve_bd {S : Nat → Int32} {nc : Nat} {e : Nat → Nat} {s nv : Nat → Int32} {b p : Nat} {x y : Int32} (h : MV S nc e s nv b) : 0 ≤ (sNerve S nc e s nv p x y).toInt ∧ (sNerve S nc e s nv p x y).toInt ≤ 1000 := by
  unfold sNerve
  split
  · exact vNerve_bd h.nv.1 h.nv.2
  · decide
theorem qAB_ok {S : Nat → Int32} {c : CT} {nc : Nat} {e : Nat → Nat} {s nv : Nat → Int32} {b sort : Nat} (hB : BD S c) (h : MV S nc e s nv b) : okAB (cN c) (cW c) (qA S) (qB S nc e s nv sort) := fun q k hq hk => by
  have h1 := sAge_bd (y := sCh k) hB hq (sCh_in hk hB.1.2.1.2)
  refine ⟨h1, ?_⟩
  unfold qB
  split
  · have := sNerve_bd (p := q) (x := nI q) (y := sCh k) h
    omega
  · decide
theorem low_dec : ∀ (a b c d e g : Bool) (N : Fin 7), 0 < N.1 → bitsTo (pick a b c d e g) N.1 &&& 1 = if a = true then 1 else 0 := by decide +kernel
theorem bits_low {f : Nat → Bool} {N : Nat} (h : N ≤ 6) (h0 : 0 < N) : bitsTo f N &&& 1 = if f 0 = true then 1 else 0 := by
  rw [bits_pk h]
  exact low_dec _ _ _ _ _ _ ⟨N, by omega⟩ h0
theorem one_dec : ∀ (a b c d e g : Bool) (N : Fin 6), bitsTo (pick a b c d e g) (N.1 + 1) = 1 ↔ (a = true ∧ (List.range N.1).any (fun k => pick a b c d e g (k + 1)) = false) := by decide +kernel
theorem bits_one {f : Nat → Bool} {W : Nat} (h : W ≤ 5) : bitsTo f (W + 1) = 1 ↔ (f 0 = true ∧ (List.range W).any (fun k => f (k + 1)) = false) := by
  rw [bits_pk (by omega), one_dec _ _ _ _ _ _ ⟨W, by omega⟩]
  have e : (List.range W).any (fun k => pick (f 0) (f 1) (f 2) (f 3) (f 4) (f 5) (k + 1)) = (List.range W).any (fun k => f (k + 1)) := by
    rw [Bool.eq_iff_iff, List.any_eq_true, List.any_eq_true]
    constructor
    · rintro ⟨k, h1, h2⟩
      have h3 := List.mem_range.mp h1
      exact ⟨k, h1, by rw [pk_at (f := f) (p := k + 1) (by omega)]; exact h2⟩
    · rintro ⟨k, h1, h2⟩
      have h3 := List.mem_range.mp h1
      exact ⟨k, h1, by rw [pk_at (f := f) (p := k + 1) (by omega)] at h2; exact h2⟩
  rw [e]
set_option maxRecDepth 4000 in
theorem qX4_isWasted (n : Nat) (mi : MI) (mr : MR) (hR : RF mr) (hn : 186 ≤ n) (sort : Nat) (hs3 : sort < 3) (hso : mi 130 11 = nI sort) (x y : Int32) (p k : Nat) (hx : x.toInt = (p : Int)) (hp : p < 6) (hy : y.toInt = (k : Int)) (hk : k ≤ 5) (M : Nat → Bool) (hmay : mi 145 p = bitsTo M k)  : Ct KX4_isWasted 1 0 0 [.ref 130, .int x, .int y] n mi mr (eqQ (some (.int (b01 (k ≠ 0 ∧ M 0 = true ∧ (sort = 0 ∨ (sort = 1 ∧ mi (132 + p) k = mi (132 + p) 0) ∨ (sort = 2 ∧ mi (139 + p) k ≤ mi (139 + p) 0)))))) n mi mr) := by
  refine Ct.of2 [some (.ref 130), some (.int x), some (.int y)] (by decide +kernel) (Nat.le_of_ble_eq_true rfl) rfl ?_
  refine V_iload_n dX4_isWasted_0 rfl ?_
  refine V_if_eq (tgt := 15) dX4_isWasted_1 (by decide) (fun c1 => ?_) (fun c1 => ?_)
  · refine V_iconst (v := 0) dX4_isWasted_15 rfl ?_
    refine V_iret dX4_isWasted_16 rfl rfl ?_
    first
      | exact ⟨congrArg (fun v => some (Value.int v)) (b01_f (fun h => h.1 ((eq_nat hy (y := 0) (b := 0) rfl).mp c1))), rfl, rfl, rfl⟩
      | exact ⟨congrArg (fun v => some (Value.int v)) (b01_f (fun h => absurd ((hlow.trans (if_pos h.2.1)).symm.trans c12) (by decide))), rfl, rfl, rfl⟩
  · have hk0 : ¬ k = 0 := fun e => c1 ((eq_nat hy (y := 0) (b := 0) rfl).mpr e)
    have hlow := bits_low (f := M) (N := k) (by omega) (Nat.pos_of_ne_zero hk0)
    rw [← hmay] at hlow
    refine V_aload_n dX4_isWasted_4 rfl ?_
    refine V_getr (b := 145) 4 3 dX4_isWasted_5 (Or.inl lkX4_19) rfl rfl ⟨by omega, by omega⟩ (hR _ _ _ rfl) ?_
    refine V_iload_n dX4_isWasted_8 rfl ?_
    refine V_iald (len := 6) p dX4_isWasted_9 rfl ⟨by omega, by omega⟩ hx (by omega) ?_
    refine V_iconst (v := 1) dX4_isWasted_10 rfl ?_
    refine V_iand dX4_isWasted_11 ?_
    refine V_if_ne (tgt := 17) dX4_isWasted_12 (by decide) (fun c12 => ?_) (fun c12 => ?_)
    · have hM0 : M 0 = true := by
        cases e : M 0 with
        | true => rfl
        | false =>
          rw [hlow, e] at c12
          exact absurd (by decide) c12
      refine V_aload_n dX4_isWasted_17 rfl ?_
      refine V_geti 4 11 dX4_isWasted_18 (Or.inl lkX4_79) rfl rfl ⟨by omega, by omega⟩ ?_
      by_cases s0 : sort = 0
      · rw [show mi 130 11 = nI 0 from by rw [hso, show sort = 0 by omega]]
        refine V_lookup (off := 27) (tgt := 48) dX4_isWasted_21 (by decide) (by decide) (by decide) ?_
        refine V_iconst (v := 1) dX4_isWasted_48 rfl ?_
        refine V_iret dX4_isWasted_49 rfl rfl ?_
        exact ⟨congrArg (fun v => some (Value.int v)) (b01_t (And.intro hk0 (And.intro hM0 (Or.inl s0)))), rfl, rfl, rfl⟩
      by_cases s1 : sort = 1
      · rw [show mi 130 11 = nI 1 from by rw [hso, show sort = 1 by omega]]
        refine V_lookup (off := 29) (tgt := 50) dX4_isWasted_21 (by decide) (by decide) (by decide) ?_
        refine V_aload_n dX4_isWasted_50 rfl ?_
        refine V_getr (b := 131) 4 1 dX4_isWasted_51 (Or.inl lkX4_13) rfl rfl ⟨by omega, by omega⟩ (hR _ _ _ rfl) ?_
        refine V_iload_n dX4_isWasted_54 rfl ?_
        refine V_aald (len := 6) (b := (132 + p)) 3 p dX4_isWasted_55 rfl rfl ⟨by omega, by omega⟩ hx (by omega) (hR _ _ _ (sSr (by omega)).2.2.1) ?_
        refine V_iload_n dX4_isWasted_56 rfl ?_
        refine V_iald (len := 6) k dX4_isWasted_57 (sSr (by omega)).1 ⟨by omega, by omega⟩ hy (by omega) ?_
        refine V_aload_n dX4_isWasted_58 rfl ?_
        refine V_getr (b := 131) 4 1 dX4_isWasted_59 (Or.inl lkX4_13) rfl rfl ⟨by omega, by omega⟩ (hR _ _ _ rfl) ?_
        refine V_iload_n dX4_isWasted_62 rfl ?_
        refine V_aald (len := 6) (b := (132 + p)) 3 p dX4_isWasted_63 rfl rfl ⟨by omega, by omega⟩ hx (by omega) (hR _ _ _ (sSr (by omega)).2.2.1) ?_
        refine V_iconst (v := 0) dX4_isWasted_64 rfl ?_
        refine V_iald (len := 6) 0 dX4_isWasted_65 (sSr (by omega)).1 ⟨by omega, by omega⟩ (by decide) (by omega) ?_
        refine V_icmp_ne (tgt := 73) dX4_isWasted_66 (by decide) (fun c66 => ?_) (fun c66 => ?_)
        · refine V_iconst (v := 0) dX4_isWasted_73 rfl ?_
          refine V_iret dX4_isWasted_74 rfl rfl ?_
          first
            | exact ⟨congrArg (fun v => some (Value.int v)) (b01_t (And.intro hk0 (And.intro hM0 (Or.inr (Or.inl (And.intro s1 c66)))))), rfl, rfl, rfl⟩
            | exact ⟨congrArg (fun v => some (Value.int v)) (b01_f (fun h => h.2.2.elim s0 (fun q => q.elim (fun q => c66 q.2) (fun q => absurd (q.1.symm.trans s1) (by decide))))), rfl, rfl, rfl⟩
        · refine V_iconst (v := 1) dX4_isWasted_69 rfl ?_
          refine V_goto (tgt := 74) dX4_isWasted_70 (by decide) ?_
          refine V_iret dX4_isWasted_74 rfl rfl ?_
          first
            | exact ⟨congrArg (fun v => some (Value.int v)) (b01_t (And.intro hk0 (And.intro hM0 (Or.inr (Or.inl (And.intro s1 c66)))))), rfl, rfl, rfl⟩
            | exact ⟨congrArg (fun v => some (Value.int v)) (b01_f (fun h => h.2.2.elim s0 (fun q => q.elim (fun q => c66 q.2) (fun q => absurd (q.1.symm.trans s1) (by decide))))), rfl, rfl, rfl⟩
      rw [show mi 130 11 = nI 2 from by rw [hso, show sort = 2 by omega]]
      refine V_lookup (off := 54) (tgt := 75) dX4_isWasted_21 (by decide) (by decide) (by decide) ?_
      refine V_aload_n dX4_isWasted_75 rfl ?_
      refine V_getr (b := 138) 4 2 dX4_isWasted_76 (Or.inl lkX4_16) rfl rfl ⟨by omega, by omega⟩ (hR _ _ _ rfl) ?_
      refine V_iload_n dX4_isWasted_79 rfl ?_
      refine V_aald (len := 6) (b := (139 + p)) 3 p dX4_isWasted_80 rfl rfl ⟨by omega, by omega⟩ hx (by omega) (hR _ _ _ (sSr (by omega)).2.2.2) ?_
      refine V_iload_n dX4_isWasted_81 rfl ?_
      refine V_iald (len := 6) k dX4_isWasted_82 (sSr (by omega)).2.1 ⟨by omega, by omega⟩ hy (by omega) ?_
      refine V_aload_n dX4_isWasted_83 rfl ?_
      refine V_getr (b := 138) 4 2 dX4_isWasted_84 (Or.inl lkX4_16) rfl rfl ⟨by omega, by omega⟩ (hR _ _ _ rfl) ?_
      refine V_iload_n dX4_isWasted_87 rfl ?_
      refine V_aald (len := 6) (b := (139 + p)) 3 p dX4_isWasted_88 rfl rfl ⟨by omega, by omega⟩ hx (by omega) (hR _ _ _ (sSr (by omega)).2.2.2) ?_
      refine V_iconst (v := 0) dX4_isWasted_89 rfl ?_
      refine V_iald (len := 6) 0 dX4_isWasted_90 (sSr (by omega)).2.1 ⟨by omega, by omega⟩ (by decide) (by omega) ?_
      refine V_icmp_gt (tgt := 98) dX4_isWasted_91 (by decide) (fun c91 => ?_) (fun c91 => ?_)
      · refine V_iconst (v := 0) dX4_isWasted_98 rfl ?_
        refine V_iret dX4_isWasted_99 rfl rfl ?_
        first
          | exact ⟨congrArg (fun v => some (Value.int v)) (b01_t (And.intro hk0 (And.intro hM0 (Or.inr (Or.inr (And.intro (by omega) (Int32.not_lt.mp c91))))))), rfl, rfl, rfl⟩
          | exact ⟨congrArg (fun v => some (Value.int v)) (b01_f (fun h => h.2.2.elim s0 (fun q => q.elim (fun q => s1 q.1) (fun q => absurd q.2 (Int32.not_le.mpr c91))))), rfl, rfl, rfl⟩
      · refine V_iconst (v := 1) dX4_isWasted_94 rfl ?_
        refine V_goto (tgt := 99) dX4_isWasted_95 (by decide) ?_
        refine V_iret dX4_isWasted_99 rfl rfl ?_
        first
          | exact ⟨congrArg (fun v => some (Value.int v)) (b01_t (And.intro hk0 (And.intro hM0 (Or.inr (Or.inr (And.intro (by omega) (Int32.not_lt.mp c91))))))), rfl, rfl, rfl⟩
          | exact ⟨congrArg (fun v => some (Value.int v)) (b01_f (fun h => h.2.2.elim s0 (fun q => q.elim (fun q => s1 q.1) (fun q => absurd q.2 (Int32.not_le.mpr c91))))), rfl, rfl, rfl⟩
    · refine V_iconst (v := 0) dX4_isWasted_15 rfl ?_
      refine V_iret dX4_isWasted_16 rfl rfl ?_
      first
        | exact ⟨congrArg (fun v => some (Value.int v)) (b01_f (fun h => h.1 ((eq_nat hy (y := 0) (b := 0) rfl).mp c1))), rfl, rfl, rfl⟩
        | exact ⟨congrArg (fun v => some (Value.int v)) (b01_f (fun h => absurd ((hlow.trans (if_pos h.2.1)).symm.trans c12) (by decide))), rfl, rfl, rfl⟩
def offL (p : Nat) : Nat → Nat → Prop := fun a k => a = 132 + p ∨ a = 139 + p ∨ (a = 145 ∧ k = p) ∨ a = 57
theorem offL_scr {p : Nat} (hp : p < 6) {mi mj : MI} (h : Off (offL p) mi mj) : Off scrC mi mj := h.mono (fun a k q => by unfold offL at q; unfold scrC; omega)
theorem qM_eq {S : Nat → Int32} {nc : Nat} {e : Nat → Nat} {s nv : Nat → Int32} {sort : Nat} {set : Int32} {p k : Nat} : qM S nc e s nv sort set p k = true ↔ (qF S sort set p k = true ∧ 0 < qL S k ∧ ¬ (k ≠ 0 ∧ qF S sort set p 0 = true ∧ wstB sort (qA S) (qB S nc e s nv sort) p k = true)) := by
  unfold qM mayB
  rw [Bool.and_eq_true, Bool.and_eq_true, decide_eq_true_iff, Bool.not_eq_true', and_assoc]
  refine and_congr Iff.rfl (and_congr Iff.rfl ?_)
  rw [← Bool.not_eq_true, Bool.and_eq_true, Bool.and_eq_true, decide_eq_true_iff, and_assoc]
theorem qM_0 {S : Nat → Int32} {nc : Nat} {e : Nat → Nat} {s nv : Nat → Int32} {sort : Nat} {set : Int32} {p : Nat} : qM S nc e s nv sort set p 0 = true ↔ qF S sort set p 0 = true := by
  rw [qM_eq]
  exact ⟨fun h => h.1, fun h => ⟨h, by show 0 < 6; decide, fun q => q.1 rfl⟩⟩
theorem wstB_iff {sort : Nat} {A B : Nat → Nat → Int} {p k : Nat} (hs : sort < 3) : wstB sort A B p k = true ↔ (sort = 0 ∨ (sort = 1 ∧ A p k = A p 0) ∨ (sort = 2 ∧ B p k ≤ B p 0)) := by
  unfold wstB
  by_cases s0 : sort = 0
  · rw [if_pos s0]
    exact ⟨fun _ => Or.inl s0, fun _ => rfl⟩
  · rw [if_neg s0]
    by_cases s1 : sort = 1
    · rw [if_pos s1, decide_eq_true_iff]
      exact ⟨fun h => Or.inr (Or.inl ⟨s1, h⟩), fun h => h.elim (fun q => absurd q s0) (fun q => q.elim (fun q => q.2) (fun q => by have := q.1; omega))⟩
    · rw [if_neg s1, decide_eq_true_iff]
      exact ⟨fun h => Or.inr (Or.inr ⟨by omega, h⟩), fun h => h.elim (fun q => absurd q s0) (fun q => q.elim (fun q => absurd q.1 s1) (fun q => q.2))⟩
set_option maxRecDepth 4000 in
theorem qX4_layChoices (n : Nat) (mi : MI) (mr : MR) (c : CT) (I : INV n mi mr c) (nc : Nat) (e : Nat → Nat) (hO : VOK mi (hvOf (mi 174)) nc e) (sort : Nat) (hs3 : sort < 3) (set : Int32) (hso : mi 130 11 = nI sort) (hlf : ∀ k, k ≤ cW c → (mi 146 k).toInt = (qL (mi 174) k : Int)) (x y : Int32) (p : Nat) (hx : x.toInt = (p : Int)) (hp : p < cN c) (hy : y = b01 ((set >>> (nI p &&& 31)) &&& 1 = 1)) : Ct KX4_layChoices 7 0 0 [.ref 130, .int x, .int y] n mi mr (fun r n' mi' mr' => none = r ∧ n = n' ∧ mr = mr' ∧ Off (offL p) mi mi' ∧ mi' 145 p = bitsTo ((qM (mi 174) nc e (mi ((hvOf (mi 174)) + 1)) (mi ((hvOf (mi 174)) + 2)) sort set) p) (cW c + 1) ∧ ∀ j, j ≤ cW c → (mi' (132 + p) j).toInt = qA (mi 174) p j ∧ (mi' (139 + p) j).toInt = (qB (mi 174) nc e (mi ((hvOf (mi 174)) + 1)) (mi ((hvOf (mi 174)) + 2)) sort) p j) := by
  refine Ct.of2 [some (.ref 130), some (.int x), some (.int y), none, none, none] (by decide +kernel) (Nat.le_of_ble_eq_true rfl) rfl ?_
  have hI := I
  have hBD := I.2.2.1
  obtain ⟨hR, hn, ⟨⟨hN, hN6⟩, ⟨hW, hW5⟩, -⟩, hrw⟩ := I.facts
  have hxp : x = nI p := nI_of_toInt hx
  have hs2i : mi 130 11 = 2 ↔ sort = 2 := sort_c hso hs3 2 (by decide)
  have hs1i : mi 130 11 = 1 ↔ sort = 1 := sort_c hso hs3 1 (by decide)
  have hvw := hBD.isV.le2
  have base : ∀ {m : MI}, Off (offL p) mi m → INV n m mr c ∧ m 174 = mi 174 ∧ (∀ a, a ≤ 56 ∨ (58 ≤ a ∧ a ≤ 130) ∨ a = 146 ∨ 153 ≤ a → m a = mi a) ∧ VOK m (hvOf (mi 174)) nc e := fun {m} ho => by
    have h1 : ∀ a, a ≤ 56 ∨ (58 ≤ a ∧ a ≤ 130) ∨ a = 146 ∨ 153 ≤ a → m a = mi a := fun a ha => ho.fn (fun k => by unfold offL; omega)
    exact ⟨hI.offC (offL_scr (by omega) ho), h1 174 (by omega), h1, hO.row (h1 _ (by omega)) (h1 _ (by omega)) (h1 _ (by omega))⟩
  have loop : ∀ (m k : Nat) (mj : MI) (u : Int32) (z4 z5 : Option Value), k + m = cW c + 1 → u.toInt = (k : Int) → Off (offL p) mi mj → mj 145 p = bitsTo ((qM (mi 174) nc e (mi ((hvOf (mi 174)) + 1)) (mi ((hvOf (mi 174)) + 2)) sort set) p) k → (∀ j, j < k → (mj (132 + p) j).toInt = qA (mi 174) p j ∧ (mj (139 + p) j).toInt = (qB (mi 174) nc e (mi ((hvOf (mi 174)) + 1)) (mi ((hvOf (mi 174)) + 2)) sort) p j) → V KX4_layChoices 7 0 0 (fun r n' mi' mr' => none = r ∧ n = n' ∧ mr = mr' ∧ Off (offL p) mi mi' ∧ mi' 145 p = bitsTo ((qM (mi 174) nc e (mi ((hvOf (mi 174)) + 1)) (mi ((hvOf (mi 174)) + 2)) sort set) p) (cW c + 1) ∧ ∀ j, j ≤ cW c → (mi' (132 + p) j).toInt = qA (mi 174) p j ∧ (mi' (139 + p) j).toInt = (qB (mi 174) nc e (mi ((hvOf (mi 174)) + 1)) (mi ((hvOf (mi 174)) + 2)) sort) p j) 9 [some (.ref 130), some (.int x), some (.int y), some (.int u), z4, z5] [] n mj mr := by
    intro m
    induction m with
    | zero =>
      intro k mj u z4 z5 hkm hu hoj hmay hrows
      obtain ⟨Ij, e174, hrow, hOj⟩ := base hoj
      have hWj : nat (mj 40 2) (cW c) := by rw [hrow 40 (by omega), hrw.1.2.2.1]; exact hW
      refine V_iload_n dX4_layChoices_9 rfl ?_
      refine V_aload_n dX4_layChoices_10 rfl ?_
      refine V_getr (b := 40) 4 0 dX4_layChoices_11 (Or.inl lkX4_44) rfl rfl ⟨by omega, by omega⟩ (hR _ _ _ rfl) ?_
      refine V_geti 6 2 dX4_layChoices_14 lnX4_88 rfl rfl ⟨by omega, by omega⟩ ?_
      refine V_icmp_gt (tgt := 169) dX4_layChoices_17 (by decide) (fun c17 => ?_) (fun c17 => absurd ((lt_nat hWj hu).mpr (by omega)) c17)
      refine V_ret dX4_layChoices_169 rfl ?_
      have hk : k = cW c + 1 := by omega
      rw [hk] at hmay
      exact ⟨rfl, rfl, rfl, hoj, hmay, fun j hj => hrows j (by omega)⟩
    | succ m ih =>
      intro k mj u z4 z5 hkm hu hoj hmay hrows
      have hk5 : k ≤ cW c := by omega
      obtain ⟨Ij, e174, hrow, hOj⟩ := base hoj
      have hWj : nat (mj 40 2) (cW c) := by rw [hrow 40 (by omega), hrw.1.2.2.1]; exact hW
      have hus : u - 1 = sCh k := by rw [nI_of_toInt hu]; rfl
      have hin := sCh_in hk5 hW5
      have hinO := hin.ok hW5
      rw [← hus] at hinO
      have hend : ∀ (mk : MI) (z4 z5 : Option Value), Off (offL p) mi mk → mk 145 p = bitsTo ((qM (mi 174) nc e (mi ((hvOf (mi 174)) + 1)) (mi ((hvOf (mi 174)) + 2)) sort set) p) (k + 1) → (∀ j, j < k + 1 → (mk (132 + p) j).toInt = qA (mi 174) p j ∧ (mk (139 + p) j).toInt = (qB (mi 174) nc e (mi ((hvOf (mi 174)) + 1)) (mi ((hvOf (mi 174)) + 2)) sort) p j) → V KX4_layChoices 7 0 0 (fun r n' mi' mr' => none = r ∧ n = n' ∧ mr = mr' ∧ Off (offL p) mi mi' ∧ mi' 145 p = bitsTo ((qM (mi 174) nc e (mi ((hvOf (mi 174)) + 1)) (mi ((hvOf (mi 174)) + 2)) sort set) p) (cW c + 1) ∧ ∀ j, j ≤ cW c → (mi' (132 + p) j).toInt = qA (mi 174) p j ∧ (mi' (139 + p) j).toInt = (qB (mi 174) nc e (mi ((hvOf (mi 174)) + 1)) (mi ((hvOf (mi 174)) + 2)) sort) p j) 163 [some (.ref 130), some (.int x), some (.int y), some (.int u), z4, z5] [] n mk mr := by
        intro mk z4 z5 hok hm2 hr2
        refine V_iinc (v := _ + (1)) (L' := [_, _, _, _, _, _]) dX4_layChoices_163 (by decide) rfl rfl rfl rfl ?_
        refine V_goto (tgt := 9) dX4_layChoices_166 (by decide) ?_
        exact ih (k + 1) mk _ _ _ (by omega) (ix_add hu (by decide) (by omega)) hok hm2 hr2
      have h128 : ∀ (mk : MI) (z5 : Int32) (z4 : Option Value), z5 = b01 (qF (mi 174) sort set p k = true) → Off (offL p) mi mk → mk 145 p = bitsTo ((qM (mi 174) nc e (mi ((hvOf (mi 174)) + 1)) (mi ((hvOf (mi 174)) + 2)) sort set) p) k → (∀ j, j < k + 1 → (mk (132 + p) j).toInt = qA (mi 174) p j ∧ (mk (139 + p) j).toInt = (qB (mi 174) nc e (mi ((hvOf (mi 174)) + 1)) (mi ((hvOf (mi 174)) + 2)) sort) p j) → V KX4_layChoices 7 0 0 (fun r n' mi' mr' => none = r ∧ n = n' ∧ mr = mr' ∧ Off (offL p) mi mi' ∧ mi' 145 p = bitsTo ((qM (mi 174) nc e (mi ((hvOf (mi 174)) + 1)) (mi ((hvOf (mi 174)) + 2)) sort set) p) (cW c + 1) ∧ ∀ j, j ≤ cW c → (mi' (132 + p) j).toInt = qA (mi 174) p j ∧ (mi' (139 + p) j).toInt = (qB (mi 174) nc e (mi ((hvOf (mi 174)) + 1)) (mi ((hvOf (mi 174)) + 2)) sort) p j) 128 [some (.ref 130), some (.int x), some (.int y), some (.int u), z4, some (.int z5)] [] n mk mr := by
        intro mk z5 z4 hz5 hok hm2 hr2
        obtain ⟨Ik, e174k, hrowk, hOk⟩ := base hok
        have hlk : (mk 146 k).toInt = (qL (mi 174) k : Int) := by rw [hrowk 146 (by omega)]; exact hlf k hk5
        have hsok : mk 130 11 = nI sort := by rw [hrowk 130 (by omega)]; exact hso
        have hno : ¬ (qM (mi 174) nc e (mi ((hvOf (mi 174)) + 1)) (mi ((hvOf (mi 174)) + 2)) sort set) p k = true → mk 145 p = bitsTo ((qM (mi 174) nc e (mi ((hvOf (mi 174)) + 1)) (mi ((hvOf (mi 174)) + 2)) sort set) p) (k + 1) := fun h => by
          rw [hm2]
          exact (if_neg h : bitsTo ((qM (mi 174) nc e (mi ((hvOf (mi 174)) + 1)) (mi ((hvOf (mi 174)) + 2)) sort set) p) (k + 1) = _).symm
        refine V_iload dX4_layChoices_128 rfl ?_
        refine V_if_eq (tgt := 163) dX4_layChoices_130 (by decide) (fun c130 => ?_) (fun c130 => ?_)
        · first
            | exact hend mk _ _ hok (hno (fun h => absurd (b01_0.mp (hz5.symm.trans c130)) (fun q => q (qM_eq.mp h).1))) hr2
            | exact hend mk _ _ hok (hno (fun h => by
                have q := (qM_eq.mp h).2.1
                rw [Int32.le_iff_toInt_le, hlk] at c139
                simp only [Int32.reduceToInt] at c139
                omega)) hr2
            | exact hend mk _ _ hok (hno (fun h => by
                obtain ⟨w1, w2, w3⟩ := b01_n.mp c148
                refine (qM_eq.mp h).2.2 ⟨w1, qM_0.mp w2, (wstB_iff hs3).mpr ?_⟩
                rcases w3 with g | g | g
                · exact Or.inl g
                · refine Or.inr (Or.inl ⟨g.1, ?_⟩)
                  rw [← (hr2 k (by omega)).1, ← (hr2 0 (by omega)).1, g.2]
                · refine Or.inr (Or.inr ⟨g.1, ?_⟩)
                  rw [← (hr2 k (by omega)).2, ← (hr2 0 (by omega)).2, ← Int32.le_iff_toInt_le]
                  exact g.2)) hr2
            | (refine hend _ _ _ (hok.up (Or.inr (Or.inr (Or.inl ⟨rfl, rfl⟩)))) ?_ (fun j hj => ?_)
               · rw [up2_s, hm2, nI_of_toInt hu]
                 exact (if_pos hyes : bitsTo ((qM (mi 174) nc e (mi ((hvOf (mi 174)) + 1)) (mi ((hvOf (mi 174)) + 2)) sort set) p) (k + 1) = _).symm
               · rw [up2_row (by omega), up2_row (by omega)]
                 exact hr2 j hj)
        · refine V_aload_n dX4_layChoices_133 rfl ?_
          refine V_getr (b := 146) 4 4 dX4_layChoices_134 (Or.inl lkX4_23) rfl rfl ⟨by omega, by omega⟩ (hR _ _ _ rfl) ?_
          refine V_iload_n dX4_layChoices_137 rfl ?_
          refine V_iald (len := 6) k dX4_layChoices_138 rfl ⟨by omega, by omega⟩ hu (by omega) ?_
          refine V_if_le (tgt := 163) dX4_layChoices_139 (by decide) (fun c139 => ?_) (fun c139 => ?_)
          · first
              | exact hend mk _ _ hok (hno (fun h => absurd (b01_0.mp (hz5.symm.trans c130)) (fun q => q (qM_eq.mp h).1))) hr2
              | exact hend mk _ _ hok (hno (fun h => by
                  have q := (qM_eq.mp h).2.1
                  rw [Int32.le_iff_toInt_le, hlk] at c139
                  simp only [Int32.reduceToInt] at c139
                  omega)) hr2
              | exact hend mk _ _ hok (hno (fun h => by
                  obtain ⟨w1, w2, w3⟩ := b01_n.mp c148
                  refine (qM_eq.mp h).2.2 ⟨w1, qM_0.mp w2, (wstB_iff hs3).mpr ?_⟩
                  rcases w3 with g | g | g
                  · exact Or.inl g
                  · refine Or.inr (Or.inl ⟨g.1, ?_⟩)
                    rw [← (hr2 k (by omega)).1, ← (hr2 0 (by omega)).1, g.2]
                  · refine Or.inr (Or.inr ⟨g.1, ?_⟩)
                    rw [← (hr2 k (by omega)).2, ← (hr2 0 (by omega)).2, ← Int32.le_iff_toInt_le]
                    exact g.2)) hr2
              | (refine hend _ _ _ (hok.up (Or.inr (Or.inr (Or.inl ⟨rfl, rfl⟩)))) ?_ (fun j hj => ?_)
                 · rw [up2_s, hm2, nI_of_toInt hu]
                   exact (if_pos hyes : bitsTo ((qM (mi 174) nc e (mi ((hvOf (mi 174)) + 1)) (mi ((hvOf (mi 174)) + 2)) sort set) p) (k + 1) = _).symm
                 · rw [up2_row (by omega), up2_row (by omega)]
                   exact hr2 j hj)
          · refine V_aload_n dX4_layChoices_142 rfl ?_
            refine V_iload_n dX4_layChoices_143 rfl ?_
            refine V_iload_n dX4_layChoices_144 rfl ?_
            refine V_callV (ci := 4) (qX4_isWasted n mk mr hR hn sort hs3 hsok _ _ p k hx (by omega) hu (by omega) ((qM (mi 174) nc e (mi ((hvOf (mi 174)) + 1)) (mi ((hvOf (mi 174)) + 2)) sort set) p) hm2) dX4_layChoices_145 mlX4_107 mtX4_isWasted ivX4_isWasted rfl rfl ⟨by omega, by omega⟩ (by decide) rfl rfl (by decide) (Nat.le_of_ble_eq_true rfl) rfl rfl ?_
            rintro _ _ _ _ ⟨rfl, rfl, rfl, rfl⟩
            refine V_if_ne (tgt := 163) dX4_layChoices_148 (by decide) (fun c148 => ?_) (fun c148 => ?_)
            · first
                | exact hend mk _ _ hok (hno (fun h => absurd (b01_0.mp (hz5.symm.trans c130)) (fun q => q (qM_eq.mp h).1))) hr2
                | exact hend mk _ _ hok (hno (fun h => by
                    have q := (qM_eq.mp h).2.1
                    rw [Int32.le_iff_toInt_le, hlk] at c139
                    simp only [Int32.reduceToInt] at c139
                    omega)) hr2
                | exact hend mk _ _ hok (hno (fun h => by
                    obtain ⟨w1, w2, w3⟩ := b01_n.mp c148
                    refine (qM_eq.mp h).2.2 ⟨w1, qM_0.mp w2, (wstB_iff hs3).mpr ?_⟩
                    rcases w3 with g | g | g
                    · exact Or.inl g
                    · refine Or.inr (Or.inl ⟨g.1, ?_⟩)
                      rw [← (hr2 k (by omega)).1, ← (hr2 0 (by omega)).1, g.2]
                    · refine Or.inr (Or.inr ⟨g.1, ?_⟩)
                      rw [← (hr2 k (by omega)).2, ← (hr2 0 (by omega)).2, ← Int32.le_iff_toInt_le]
                      exact g.2)) hr2
                | (refine hend _ _ _ (hok.up (Or.inr (Or.inr (Or.inl ⟨rfl, rfl⟩)))) ?_ (fun j hj => ?_)
                   · rw [up2_s, hm2, nI_of_toInt hu]
                     exact (if_pos hyes : bitsTo ((qM (mi 174) nc e (mi ((hvOf (mi 174)) + 1)) (mi ((hvOf (mi 174)) + 2)) sort set) p) (k + 1) = _).symm
                   · rw [up2_row (by omega), up2_row (by omega)]
                     exact hr2 j hj)
            · have hyes : (qM (mi 174) nc e (mi ((hvOf (mi 174)) + 1)) (mi ((hvOf (mi 174)) + 2)) sort set) p k = true := by
                refine qM_eq.mpr ⟨b01_n.mp (by rw [← hz5]; exact c130), ?_, fun q => ?_⟩
                · have q := Int32.not_le.mp c139
                  rw [Int32.lt_iff_toInt_lt, hlk] at q
                  simp only [Int32.reduceToInt] at q
                  omega
                · refine b01_0.mp c148 ⟨q.1, qM_0.mpr q.2.1, ?_⟩
                  rcases (wstB_iff hs3).mp q.2.2 with h | h | h
                  · exact Or.inl h
                  · refine Or.inr (Or.inl ⟨h.1, ?_⟩)
                    rw [← Int32.toInt_inj, (hr2 k (by omega)).1, (hr2 0 (by omega)).1]
                    exact h.2
                  · refine Or.inr (Or.inr ⟨h.1, ?_⟩)
                    rw [Int32.le_iff_toInt_le, (hr2 k (by omega)).2, (hr2 0 (by omega)).2]
                    exact h.2
              refine V_aload_n dX4_layChoices_151 rfl ?_
              refine V_getr (b := 145) 4 3 dX4_layChoices_152 (Or.inl lkX4_19) rfl rfl ⟨by omega, by omega⟩ (hR _ _ _ rfl) ?_
              refine V_iload_n dX4_layChoices_155 rfl ?_
              refine V_dup2 dX4_layChoices_156 rfl rfl ?_
              refine V_iald (len := 6) p dX4_layChoices_157 rfl ⟨by omega, by omega⟩ hx (by omega) ?_
              refine V_iconst (v := 1) dX4_layChoices_158 rfl ?_
              refine V_iload_n dX4_layChoices_159 rfl ?_
              refine V_ishl dX4_layChoices_160 ?_
              refine V_ior dX4_layChoices_161 ?_
              refine V_iast (len := 6) p dX4_layChoices_162 rfl ⟨by omega, by omega⟩ hx (by omega) ?_
              first
                | exact hend mk _ _ hok (hno (fun h => absurd (b01_0.mp (hz5.symm.trans c130)) (fun q => q (qM_eq.mp h).1))) hr2
                | exact hend mk _ _ hok (hno (fun h => by
                    have q := (qM_eq.mp h).2.1
                    rw [Int32.le_iff_toInt_le, hlk] at c139
                    simp only [Int32.reduceToInt] at c139
                    omega)) hr2
                | exact hend mk _ _ hok (hno (fun h => by
                    obtain ⟨w1, w2, w3⟩ := b01_n.mp c148
                    refine (qM_eq.mp h).2.2 ⟨w1, qM_0.mp w2, (wstB_iff hs3).mpr ?_⟩
                    rcases w3 with g | g | g
                    · exact Or.inl g
                    · refine Or.inr (Or.inl ⟨g.1, ?_⟩)
                      rw [← (hr2 k (by omega)).1, ← (hr2 0 (by omega)).1, g.2]
                    · refine Or.inr (Or.inr ⟨g.1, ?_⟩)
                      rw [← (hr2 k (by omega)).2, ← (hr2 0 (by omega)).2, ← Int32.le_iff_toInt_le]
                      exact g.2)) hr2
                | (refine hend _ _ _ (hok.up (Or.inr (Or.inr (Or.inl ⟨rfl, rfl⟩)))) ?_ (fun j hj => ?_)
                   · rw [up2_s, hm2, nI_of_toInt hu]
                     exact (if_pos hyes : bitsTo ((qM (mi 174) nc e (mi ((hvOf (mi 174)) + 1)) (mi ((hvOf (mi 174)) + 2)) sort set) p) (k + 1) = _).symm
                   · rw [up2_row (by omega), up2_row (by omega)]
                     exact hr2 j hj)
      have h91 : ∀ (mk : MI) (z4 : Int32) (z5 : Option Value), z4 = b01 (qHere (mi 174) p k = true) → Off (offL p) mi mk → mk 145 p = bitsTo ((qM (mi 174) nc e (mi ((hvOf (mi 174)) + 1)) (mi ((hvOf (mi 174)) + 2)) sort set) p) k → (∀ j, j < k + 1 → (mk (132 + p) j).toInt = qA (mi 174) p j ∧ (mk (139 + p) j).toInt = (qB (mi 174) nc e (mi ((hvOf (mi 174)) + 1)) (mi ((hvOf (mi 174)) + 2)) sort) p j) → V KX4_layChoices 7 0 0 (fun r n' mi' mr' => none = r ∧ n = n' ∧ mr = mr' ∧ Off (offL p) mi mi' ∧ mi' 145 p = bitsTo ((qM (mi 174) nc e (mi ((hvOf (mi 174)) + 1)) (mi ((hvOf (mi 174)) + 2)) sort set) p) (cW c + 1) ∧ ∀ j, j ≤ cW c → (mi' (132 + p) j).toInt = qA (mi 174) p j ∧ (mi' (139 + p) j).toInt = (qB (mi 174) nc e (mi ((hvOf (mi 174)) + 1)) (mi ((hvOf (mi 174)) + 2)) sort) p j) 91 [some (.ref 130), some (.int x), some (.int y), some (.int u), some (.int z4), z5] [] n mk mr := by
        intro mk z4 z5 hz4 hok hm2 hr2
        obtain ⟨Ik, e174k, hrowk, hOk⟩ := base hok
        have hs2 : mk 130 11 = 2 ↔ sort = 2 := by rw [hrowk 130 (by omega)]; exact hs2i
        have hs1 : mk 130 11 = 1 ↔ sort = 1 := by rw [hrowk 130 (by omega)]; exact hs1i
        subst hz4
        refine V_aload_n dX4_layChoices_91 rfl ?_
        refine V_geti 4 11 dX4_layChoices_92 (Or.inl lkX4_79) rfl rfl ⟨by omega, by omega⟩ ?_
        refine V_iconst (v := 2) dX4_layChoices_95 rfl ?_
        refine V_icmp_eq (tgt := 121) dX4_layChoices_96 (by decide) (fun c96 => ?_) (fun c96 => ?_)
        · refine V_iconst (v := 1) dX4_layChoices_121 rfl ?_
          refine V_goto (tgt := 126) dX4_layChoices_122 (by decide) ?_
          refine V_istore (L' := [_, _, _, _, _, _]) dX4_layChoices_126 (by decide) rfl rfl ?_
          refine h128 mk _ _ ?_ hok hm2 hr2
          first
            | exact (b01_t (qF_2 (hs2.mp c96))).symm
            | exact (b01_f (fun q => c118 (b01_1.mpr (((qF_iff (fun h => c96 (hs2.mpr h))).mp q).mpr (Or.inl (hs1.mp c106)))))).symm
            | exact (b01_t ((qF_iff (fun h => c96 (hs2.mpr h))).mpr ⟨fun _ => Or.inl (hs1.mp c106), fun _ => b01_1.mp c118⟩)).symm
            | exact (b01_f (fun q => c118 (b01_1.mpr (((qF_iff (fun h => c96 (hs2.mpr h))).mp q).mpr (Or.inr (b01_n.mp (by rw [← hy]; exact c110))))))).symm
            | exact (b01_t ((qF_iff (fun h => c96 (hs2.mpr h))).mpr ⟨fun _ => Or.inr (b01_n.mp (by rw [← hy]; exact c110)), fun _ => b01_1.mp c118⟩)).symm
            | exact (b01_f (fun q => (fun hT : ¬ (sort = 1 ∨ (set >>> (nI p &&& 31)) &&& 1 = 1) => hT (((qF_iff (fun h => c96 (hs2.mpr h))).mp q).mp (b01_n.mp c118))) (fun h => h.elim (fun g => c106 (hs1.mpr g)) (b01_0.mp (by rw [← hy]; exact c110))))).symm
            | exact (b01_t ((qF_iff (fun h => c96 (hs2.mpr h))).mpr ⟨fun h => absurd h (b01_0.mp c118), fun h => h.elim (fun g => absurd (hs1.mpr g) c106) (fun g => absurd g (b01_0.mp (by rw [← hy]; exact c110)))⟩)).symm
        · refine V_iload dX4_layChoices_99 rfl ?_
          refine V_aload_n dX4_layChoices_101 rfl ?_
          refine V_geti 4 11 dX4_layChoices_102 (Or.inl lkX4_79) rfl rfl ⟨by omega, by omega⟩ ?_
          refine V_iconst (v := 1) dX4_layChoices_105 rfl ?_
          refine V_icmp_eq (tgt := 113) dX4_layChoices_106 (by decide) (fun c106 => ?_) (fun c106 => ?_)
          · refine V_iconst (v := 1) dX4_layChoices_113 rfl ?_
            refine V_goto (tgt := 118) dX4_layChoices_114 (by decide) ?_
            refine V_icmp_ne (tgt := 125) dX4_layChoices_118 (by decide) (fun c118 => ?_) (fun c118 => ?_)
            · refine V_iconst (v := 0) dX4_layChoices_125 rfl ?_
              refine V_istore (L' := [_, _, _, _, _, _]) dX4_layChoices_126 (by decide) rfl rfl ?_
              refine h128 mk _ _ ?_ hok hm2 hr2
              first
                | exact (b01_t (qF_2 (hs2.mp c96))).symm
                | exact (b01_f (fun q => c118 (b01_1.mpr (((qF_iff (fun h => c96 (hs2.mpr h))).mp q).mpr (Or.inl (hs1.mp c106)))))).symm
                | exact (b01_t ((qF_iff (fun h => c96 (hs2.mpr h))).mpr ⟨fun _ => Or.inl (hs1.mp c106), fun _ => b01_1.mp c118⟩)).symm
                | exact (b01_f (fun q => c118 (b01_1.mpr (((qF_iff (fun h => c96 (hs2.mpr h))).mp q).mpr (Or.inr (b01_n.mp (by rw [← hy]; exact c110))))))).symm
                | exact (b01_t ((qF_iff (fun h => c96 (hs2.mpr h))).mpr ⟨fun _ => Or.inr (b01_n.mp (by rw [← hy]; exact c110)), fun _ => b01_1.mp c118⟩)).symm
                | exact (b01_f (fun q => (fun hT : ¬ (sort = 1 ∨ (set >>> (nI p &&& 31)) &&& 1 = 1) => hT (((qF_iff (fun h => c96 (hs2.mpr h))).mp q).mp (b01_n.mp c118))) (fun h => h.elim (fun g => c106 (hs1.mpr g)) (b01_0.mp (by rw [← hy]; exact c110))))).symm
                | exact (b01_t ((qF_iff (fun h => c96 (hs2.mpr h))).mpr ⟨fun h => absurd h (b01_0.mp c118), fun h => h.elim (fun g => absurd (hs1.mpr g) c106) (fun g => absurd g (b01_0.mp (by rw [← hy]; exact c110)))⟩)).symm
            · refine V_iconst (v := 1) dX4_layChoices_121 rfl ?_
              refine V_goto (tgt := 126) dX4_layChoices_122 (by decide) ?_
              refine V_istore (L' := [_, _, _, _, _, _]) dX4_layChoices_126 (by decide) rfl rfl ?_
              refine h128 mk _ _ ?_ hok hm2 hr2
              first
                | exact (b01_t (qF_2 (hs2.mp c96))).symm
                | exact (b01_f (fun q => c118 (b01_1.mpr (((qF_iff (fun h => c96 (hs2.mpr h))).mp q).mpr (Or.inl (hs1.mp c106)))))).symm
                | exact (b01_t ((qF_iff (fun h => c96 (hs2.mpr h))).mpr ⟨fun _ => Or.inl (hs1.mp c106), fun _ => b01_1.mp c118⟩)).symm
                | exact (b01_f (fun q => c118 (b01_1.mpr (((qF_iff (fun h => c96 (hs2.mpr h))).mp q).mpr (Or.inr (b01_n.mp (by rw [← hy]; exact c110))))))).symm
                | exact (b01_t ((qF_iff (fun h => c96 (hs2.mpr h))).mpr ⟨fun _ => Or.inr (b01_n.mp (by rw [← hy]; exact c110)), fun _ => b01_1.mp c118⟩)).symm
                | exact (b01_f (fun q => (fun hT : ¬ (sort = 1 ∨ (set >>> (nI p &&& 31)) &&& 1 = 1) => hT (((qF_iff (fun h => c96 (hs2.mpr h))).mp q).mp (b01_n.mp c118))) (fun h => h.elim (fun g => c106 (hs1.mpr g)) (b01_0.mp (by rw [← hy]; exact c110))))).symm
                | exact (b01_t ((qF_iff (fun h => c96 (hs2.mpr h))).mpr ⟨fun h => absurd h (b01_0.mp c118), fun h => h.elim (fun g => absurd (hs1.mpr g) c106) (fun g => absurd g (b01_0.mp (by rw [← hy]; exact c110)))⟩)).symm
          · refine V_iload_n dX4_layChoices_109 rfl ?_
            refine V_if_eq (tgt := 117) dX4_layChoices_110 (by decide) (fun c110 => ?_) (fun c110 => ?_)
            · refine V_iconst (v := 0) dX4_layChoices_117 rfl ?_
              refine V_icmp_ne (tgt := 125) dX4_layChoices_118 (by decide) (fun c118 => ?_) (fun c118 => ?_)
              · refine V_iconst (v := 0) dX4_layChoices_125 rfl ?_
                refine V_istore (L' := [_, _, _, _, _, _]) dX4_layChoices_126 (by decide) rfl rfl ?_
                refine h128 mk _ _ ?_ hok hm2 hr2
                first
                  | exact (b01_t (qF_2 (hs2.mp c96))).symm
                  | exact (b01_f (fun q => c118 (b01_1.mpr (((qF_iff (fun h => c96 (hs2.mpr h))).mp q).mpr (Or.inl (hs1.mp c106)))))).symm
                  | exact (b01_t ((qF_iff (fun h => c96 (hs2.mpr h))).mpr ⟨fun _ => Or.inl (hs1.mp c106), fun _ => b01_1.mp c118⟩)).symm
                  | exact (b01_f (fun q => c118 (b01_1.mpr (((qF_iff (fun h => c96 (hs2.mpr h))).mp q).mpr (Or.inr (b01_n.mp (by rw [← hy]; exact c110))))))).symm
                  | exact (b01_t ((qF_iff (fun h => c96 (hs2.mpr h))).mpr ⟨fun _ => Or.inr (b01_n.mp (by rw [← hy]; exact c110)), fun _ => b01_1.mp c118⟩)).symm
                  | exact (b01_f (fun q => (fun hT : ¬ (sort = 1 ∨ (set >>> (nI p &&& 31)) &&& 1 = 1) => hT (((qF_iff (fun h => c96 (hs2.mpr h))).mp q).mp (b01_n.mp c118))) (fun h => h.elim (fun g => c106 (hs1.mpr g)) (b01_0.mp (by rw [← hy]; exact c110))))).symm
                  | exact (b01_t ((qF_iff (fun h => c96 (hs2.mpr h))).mpr ⟨fun h => absurd h (b01_0.mp c118), fun h => h.elim (fun g => absurd (hs1.mpr g) c106) (fun g => absurd g (b01_0.mp (by rw [← hy]; exact c110)))⟩)).symm
              · refine V_iconst (v := 1) dX4_layChoices_121 rfl ?_
                refine V_goto (tgt := 126) dX4_layChoices_122 (by decide) ?_
                refine V_istore (L' := [_, _, _, _, _, _]) dX4_layChoices_126 (by decide) rfl rfl ?_
                refine h128 mk _ _ ?_ hok hm2 hr2
                first
                  | exact (b01_t (qF_2 (hs2.mp c96))).symm
                  | exact (b01_f (fun q => c118 (b01_1.mpr (((qF_iff (fun h => c96 (hs2.mpr h))).mp q).mpr (Or.inl (hs1.mp c106)))))).symm
                  | exact (b01_t ((qF_iff (fun h => c96 (hs2.mpr h))).mpr ⟨fun _ => Or.inl (hs1.mp c106), fun _ => b01_1.mp c118⟩)).symm
                  | exact (b01_f (fun q => c118 (b01_1.mpr (((qF_iff (fun h => c96 (hs2.mpr h))).mp q).mpr (Or.inr (b01_n.mp (by rw [← hy]; exact c110))))))).symm
                  | exact (b01_t ((qF_iff (fun h => c96 (hs2.mpr h))).mpr ⟨fun _ => Or.inr (b01_n.mp (by rw [← hy]; exact c110)), fun _ => b01_1.mp c118⟩)).symm
                  | exact (b01_f (fun q => (fun hT : ¬ (sort = 1 ∨ (set >>> (nI p &&& 31)) &&& 1 = 1) => hT (((qF_iff (fun h => c96 (hs2.mpr h))).mp q).mp (b01_n.mp c118))) (fun h => h.elim (fun g => c106 (hs1.mpr g)) (b01_0.mp (by rw [← hy]; exact c110))))).symm
                  | exact (b01_t ((qF_iff (fun h => c96 (hs2.mpr h))).mpr ⟨fun h => absurd h (b01_0.mp c118), fun h => h.elim (fun g => absurd (hs1.mpr g) c106) (fun g => absurd g (b01_0.mp (by rw [← hy]; exact c110)))⟩)).symm
            · refine V_iconst (v := 1) dX4_layChoices_113 rfl ?_
              refine V_goto (tgt := 118) dX4_layChoices_114 (by decide) ?_
              refine V_icmp_ne (tgt := 125) dX4_layChoices_118 (by decide) (fun c118 => ?_) (fun c118 => ?_)
              · refine V_iconst (v := 0) dX4_layChoices_125 rfl ?_
                refine V_istore (L' := [_, _, _, _, _, _]) dX4_layChoices_126 (by decide) rfl rfl ?_
                refine h128 mk _ _ ?_ hok hm2 hr2
                first
                  | exact (b01_t (qF_2 (hs2.mp c96))).symm
                  | exact (b01_f (fun q => c118 (b01_1.mpr (((qF_iff (fun h => c96 (hs2.mpr h))).mp q).mpr (Or.inl (hs1.mp c106)))))).symm
                  | exact (b01_t ((qF_iff (fun h => c96 (hs2.mpr h))).mpr ⟨fun _ => Or.inl (hs1.mp c106), fun _ => b01_1.mp c118⟩)).symm
                  | exact (b01_f (fun q => c118 (b01_1.mpr (((qF_iff (fun h => c96 (hs2.mpr h))).mp q).mpr (Or.inr (b01_n.mp (by rw [← hy]; exact c110))))))).symm
                  | exact (b01_t ((qF_iff (fun h => c96 (hs2.mpr h))).mpr ⟨fun _ => Or.inr (b01_n.mp (by rw [← hy]; exact c110)), fun _ => b01_1.mp c118⟩)).symm
                  | exact (b01_f (fun q => (fun hT : ¬ (sort = 1 ∨ (set >>> (nI p &&& 31)) &&& 1 = 1) => hT (((qF_iff (fun h => c96 (hs2.mpr h))).mp q).mp (b01_n.mp c118))) (fun h => h.elim (fun g => c106 (hs1.mpr g)) (b01_0.mp (by rw [← hy]; exact c110))))).symm
                  | exact (b01_t ((qF_iff (fun h => c96 (hs2.mpr h))).mpr ⟨fun h => absurd h (b01_0.mp c118), fun h => h.elim (fun g => absurd (hs1.mpr g) c106) (fun g => absurd g (b01_0.mp (by rw [← hy]; exact c110)))⟩)).symm
              · refine V_iconst (v := 1) dX4_layChoices_121 rfl ?_
                refine V_goto (tgt := 126) dX4_layChoices_122 (by decide) ?_
                refine V_istore (L' := [_, _, _, _, _, _]) dX4_layChoices_126 (by decide) rfl rfl ?_
                refine h128 mk _ _ ?_ hok hm2 hr2
                first
                  | exact (b01_t (qF_2 (hs2.mp c96))).symm
                  | exact (b01_f (fun q => c118 (b01_1.mpr (((qF_iff (fun h => c96 (hs2.mpr h))).mp q).mpr (Or.inl (hs1.mp c106)))))).symm
                  | exact (b01_t ((qF_iff (fun h => c96 (hs2.mpr h))).mpr ⟨fun _ => Or.inl (hs1.mp c106), fun _ => b01_1.mp c118⟩)).symm
                  | exact (b01_f (fun q => c118 (b01_1.mpr (((qF_iff (fun h => c96 (hs2.mpr h))).mp q).mpr (Or.inr (b01_n.mp (by rw [← hy]; exact c110))))))).symm
                  | exact (b01_t ((qF_iff (fun h => c96 (hs2.mpr h))).mpr ⟨fun _ => Or.inr (b01_n.mp (by rw [← hy]; exact c110)), fun _ => b01_1.mp c118⟩)).symm
                  | exact (b01_f (fun q => (fun hT : ¬ (sort = 1 ∨ (set >>> (nI p &&& 31)) &&& 1 = 1) => hT (((qF_iff (fun h => c96 (hs2.mpr h))).mp q).mp (b01_n.mp c118))) (fun h => h.elim (fun g => c106 (hs1.mpr g)) (b01_0.mp (by rw [← hy]; exact c110))))).symm
                  | exact (b01_t ((qF_iff (fun h => c96 (hs2.mpr h))).mpr ⟨fun h => absurd h (b01_0.mp c118), fun h => h.elim (fun g => absurd (hs1.mpr g) c106) (fun g => absurd g (b01_0.mp (by rw [← hy]; exact c110)))⟩)).symm
      have h70 : ∀ (mk : MI) (z4 z5 : Option Value), Off (offL p) mi mk → mk 145 p = bitsTo ((qM (mi 174) nc e (mi ((hvOf (mi 174)) + 1)) (mi ((hvOf (mi 174)) + 2)) sort set) p) k → (∀ j, j < k + 1 → (mk (132 + p) j).toInt = qA (mi 174) p j ∧ (mk (139 + p) j).toInt = (qB (mi 174) nc e (mi ((hvOf (mi 174)) + 1)) (mi ((hvOf (mi 174)) + 2)) sort) p j) → V KX4_layChoices 7 0 0 (fun r n' mi' mr' => none = r ∧ n = n' ∧ mr = mr' ∧ Off (offL p) mi mi' ∧ mi' 145 p = bitsTo ((qM (mi 174) nc e (mi ((hvOf (mi 174)) + 1)) (mi ((hvOf (mi 174)) + 2)) sort set) p) (cW c + 1) ∧ ∀ j, j ≤ cW c → (mi' (132 + p) j).toInt = qA (mi 174) p j ∧ (mi' (139 + p) j).toInt = (qB (mi 174) nc e (mi ((hvOf (mi 174)) + 1)) (mi ((hvOf (mi 174)) + 2)) sort) p j) 70 [some (.ref 130), some (.int x), some (.int y), some (.int u), z4, z5] [] n mk mr := by
        intro mk z4 z5 hok hm2 hr2
        obtain ⟨Ik, e174k, hrowk, hOk⟩ := base hok
        have hcl := Ik.cl.1
        have hhv := Ik.hv
        have hrwk := Ik.facts.2.2.2
        rw [e174k] at hcl hhv hrwk
        have hst : cStage mk 40 (hvOf (mi 174)) p (cAge mk 40 p (u - 1)) = sStage (mi 174) p (sAge (mi 174) p (sCh k)) := by
          rw [hus, age_eq hBD hrwk hp hin]
          exact stage_eq hrwk hp hhv
        refine V_aload_n dX4_layChoices_70 rfl ?_
        refine V_getr (b := 40) 4 0 dX4_layChoices_71 (Or.inl lkX4_44) rfl rfl ⟨by omega, by omega⟩ (hR _ _ _ rfl) ?_
        refine V_iload_n dX4_layChoices_74 rfl ?_
        refine V_iload_n dX4_layChoices_75 rfl ?_
        refine V_iconst (v := 1) dX4_layChoices_76 rfl ?_
        refine V_isub dX4_layChoices_77 ?_
        refine V_callV (ci := 6) (qX6_stageBy _ _ _ hR hn _ (Or.inl rfl) (hvOf (mi 174)) hcl hBD.isV _ _ p hx (by omega) hinO) dX4_layChoices_78 mlX4_104 mtX6_stageBy ivX6_stageBy rfl rfl ⟨by omega, by omega⟩ (by decide) rfl rfl (by decide) (Nat.le_of_ble_eq_true rfl) rfl rfl ?_
        rintro _ _ _ _ ⟨rfl, rfl, rfl, rfl⟩
        rw [hst]
        refine V_if_le (tgt := 88) dX4_layChoices_81 (by decide) (fun c81 => ?_) (fun c81 => ?_)
        · refine V_iconst (v := 0) dX4_layChoices_88 rfl ?_
          refine V_istore (L' := [_, _, _, _, _, _]) dX4_layChoices_89 (by decide) rfl rfl ?_
          refine h91 mk _ _ ?_ hok hm2 hr2
          first
            | exact (b01_f (fun h => absurd (fStage_pos.mpr (of_decide_eq_true h)) (Int32.not_lt.mpr c81))).symm
            | exact (b01_t (decide_eq_true (fStage_pos.mp (Int32.not_le.mp c81)))).symm
        · refine V_iconst (v := 1) dX4_layChoices_84 rfl ?_
          refine V_goto (tgt := 89) dX4_layChoices_85 (by decide) ?_
          refine V_istore (L' := [_, _, _, _, _, _]) dX4_layChoices_89 (by decide) rfl rfl ?_
          refine h91 mk _ _ ?_ hok hm2 hr2
          first
            | exact (b01_f (fun h => absurd (fStage_pos.mpr (of_decide_eq_true h)) (Int32.not_lt.mpr c81))).symm
            | exact (b01_t (decide_eq_true (fStage_pos.mp (Int32.not_le.mp c81)))).symm
      have hcl := Ij.cl.1
      have hrwj := Ij.facts.2.2.2
      rw [e174] at hcl hrwj
      have hage : cAge mj 40 p (u - 1) = (sAge (mi 174) p (sCh k)) := by rw [hus]; exact age_eq hBD hrwj hp hin
      have hs2 : mj 130 11 = 2 ↔ sort = 2 := by rw [hrow 130 (by omega)]; exact hs2i
      have hoj1 : Off (offL p) mi (up2 mj (132 + p) k (sAge (mi 174) p (sCh k))) := hoj.up (Or.inl rfl)
      obtain ⟨I1, e174a, hrow1, hO1⟩ := base hoj1
      have hcl1 := I1.cl.1
      have hhv1 := I1.hv
      have hrw1 := I1.facts.2.2.2
      rw [e174a] at hcl1 hhv1 hrw1
      have hnv : cNerve (up2 mj (132 + p) k (sAge (mi 174) p (sCh k))) 40 (hvOf (mi 174)) p nc e x (u - 1) = (sNerve (mi 174) nc e (mi ((hvOf (mi 174)) + 1)) (mi ((hvOf (mi 174)) + 2)) p (nI p) (sCh k)) := by
        rw [hus, hxp, nerve_eq hBD.y hrw1 hp hhv1 hin, hrow1 _ (by omega), hrow1 _ (by omega)]
      refine V_iload_n dX4_layChoices_9 rfl ?_
      refine V_aload_n dX4_layChoices_10 rfl ?_
      refine V_getr (b := 40) 4 0 dX4_layChoices_11 (Or.inl lkX4_44) rfl rfl ⟨by omega, by omega⟩ (hR _ _ _ rfl) ?_
      refine V_geti 6 2 dX4_layChoices_14 lnX4_88 rfl rfl ⟨by omega, by omega⟩ ?_
      refine V_icmp_gt (tgt := 169) dX4_layChoices_17 (by decide) (fun c17 => absurd ((lt_nat hWj hu).mp c17) (by omega)) (fun c17 => ?_)
      refine V_aload_n dX4_layChoices_20 rfl ?_
      refine V_getr (b := 131) 4 1 dX4_layChoices_21 (Or.inl lkX4_13) rfl rfl ⟨by omega, by omega⟩ (hR _ _ _ rfl) ?_
      refine V_iload_n dX4_layChoices_24 rfl ?_
      refine V_aald (len := 6) (b := (132 + p)) 3 p dX4_layChoices_25 rfl rfl ⟨by omega, by omega⟩ hx (by omega) (hR _ _ _ (sSr (by omega)).2.2.1) ?_
      refine V_iload_n dX4_layChoices_26 rfl ?_
      refine V_aload_n dX4_layChoices_27 rfl ?_
      refine V_getr (b := 40) 4 0 dX4_layChoices_28 (Or.inl lkX4_44) rfl rfl ⟨by omega, by omega⟩ (hR _ _ _ rfl) ?_
      refine V_iload_n dX4_layChoices_31 rfl ?_
      refine V_iload_n dX4_layChoices_32 rfl ?_
      refine V_iconst (v := 1) dX4_layChoices_33 rfl ?_
      refine V_isub dX4_layChoices_34 ?_
      refine V_callV (ci := 6) (qX6_ageBy _ _ _ hR hn _ (Or.inl rfl) _ _ p hx (by omega) hinO) dX4_layChoices_35 mlX4_97 mtX6_ageBy ivX6_ageBy rfl rfl ⟨by omega, by omega⟩ (by decide) rfl rfl (by decide) (Nat.le_of_ble_eq_true rfl) rfl rfl ?_
      rintro _ _ _ _ ⟨rfl, rfl, rfl, rfl⟩
      rw [hage]
      refine V_iast (len := 6) k dX4_layChoices_38 (sSr (by omega)).1 ⟨by omega, by omega⟩ hu (by omega) ?_
      refine V_aload_n dX4_layChoices_39 rfl ?_
      refine V_getr (b := 138) 4 2 dX4_layChoices_40 (Or.inl lkX4_16) rfl rfl ⟨by omega, by omega⟩ (hR _ _ _ rfl) ?_
      refine V_iload_n dX4_layChoices_43 rfl ?_
      refine V_aald (len := 6) (b := (139 + p)) 3 p dX4_layChoices_44 rfl rfl ⟨by omega, by omega⟩ hx (by omega) (hR _ _ _ (sSr (by omega)).2.2.2) ?_
      refine V_iload_n dX4_layChoices_45 rfl ?_
      refine V_aload_n dX4_layChoices_46 rfl ?_
      refine V_geti 4 11 dX4_layChoices_47 (Or.inl lkX4_79) rfl rfl ⟨by omega, by omega⟩ ?_
      refine V_iconst (v := 2) dX4_layChoices_50 rfl ?_
      refine V_icmp_ne (tgt := 68) dX4_layChoices_51 (by decide) (fun c51 => ?_) (fun c51 => ?_)
      · refine V_iconst (v := 0) dX4_layChoices_68 rfl ?_
        refine V_iast (len := 6) k dX4_layChoices_69 (sSr (by omega)).2.1 ⟨by omega, by omega⟩ hu (by omega) ?_
        first
          | (refine h70 _ _ _ ((hoj1.tr (ho9.mono (fun a k q => by unfold offF at q; unfold offL; omega))).up (Or.inr (Or.inl rfl))) ?_ (fun j hj => ?_)
             · rw [up2_row (by omega), ho9.fn (fun k => by unfold offF; omega), up2_row (by omega)]
               exact hmay
             · have e1 : ∀ z : Int32, up2 m9 (139 + p) k z (132 + p) = up2 mj (132 + p) k (sAge (mi 174) p (sCh k)) (132 + p) := fun z => by rw [up2_row (by omega)]; exact ho9.fn (fun k => by unfold offF; omega)
               have e2 : m9 (139 + p) = mj (139 + p) := by rw [ho9.fn (fun k => by unfold offF; omega), up2_row (by omega)]
               rw [e1]
               by_cases ej : j = k
               · rw [ej, up2_s, up2_s]
                 refine ⟨rfl, ?_⟩
                 unfold qB
                 rw [if_pos c51]
               · rw [up2_keep (by omega), up2_keep (by omega), e2]
                 exact hrows j (by omega))
          | (have c51 : ¬ sort = 2 := fun h => c51 (by rw [up2_row (by omega)]; exact hs2.mpr h)
             refine h70 _ _ _ (hoj1.up (Or.inr (Or.inl rfl))) ?_ (fun j hj => ?_)
             · rw [up2_row (by omega), up2_row (by omega)]
               exact hmay
             · rw [up2_row (b := 132 + p) (by omega)]
               by_cases ej : j = k
               · rw [ej, up2_s, up2_s]
                 refine ⟨rfl, ?_⟩
                 unfold qB
                 rw [if_neg c51]
                 decide
               · rw [up2_keep (by omega), up2_keep (by omega), up2_row (by omega)]
                 exact hrows j (by omega))
      · refine V_aload_n dX4_layChoices_54 rfl ?_
        refine V_getr (b := 40) 4 0 dX4_layChoices_55 (Or.inl lkX4_44) rfl rfl ⟨by omega, by omega⟩ (hR _ _ _ rfl) ?_
        refine V_iload_n dX4_layChoices_58 rfl ?_
        refine V_iload_n dX4_layChoices_59 rfl ?_
        refine V_iconst (v := 1) dX4_layChoices_60 rfl ?_
        refine V_isub dX4_layChoices_61 ?_
        refine V_callV (ci := 6) (qX6_nerveBy _ _ _ hR hn _ (Or.inl rfl) (hvOf (mi 174)) hcl1 hBD.isV nc e hO1 _ _ p hx (by omega) hinO) dX4_layChoices_62 mlX4_101 mtX6_nerveBy ivX6_nerveBy rfl rfl ⟨by omega, by omega⟩ (by decide) rfl rfl (by decide) (Nat.le_of_ble_eq_true rfl) rfl rfl ?_
        rintro _ _ m9 _ ⟨rfl, rfl, rfl, ho9⟩
        rw [hnv]
        have c51 : sort = 2 := hs2.mp (by rw [up2_row (by omega)] at c51; exact c51)
        refine V_goto (tgt := 69) dX4_layChoices_65 (by decide) ?_
        refine V_iast (len := 6) k dX4_layChoices_69 (sSr (by omega)).2.1 ⟨by omega, by omega⟩ hu (by omega) ?_
        first
          | (refine h70 _ _ _ ((hoj1.tr (ho9.mono (fun a k q => by unfold offF at q; unfold offL; omega))).up (Or.inr (Or.inl rfl))) ?_ (fun j hj => ?_)
             · rw [up2_row (by omega), ho9.fn (fun k => by unfold offF; omega), up2_row (by omega)]
               exact hmay
             · have e1 : ∀ z : Int32, up2 m9 (139 + p) k z (132 + p) = up2 mj (132 + p) k (sAge (mi 174) p (sCh k)) (132 + p) := fun z => by rw [up2_row (by omega)]; exact ho9.fn (fun k => by unfold offF; omega)
               have e2 : m9 (139 + p) = mj (139 + p) := by rw [ho9.fn (fun k => by unfold offF; omega), up2_row (by omega)]
               rw [e1]
               by_cases ej : j = k
               · rw [ej, up2_s, up2_s]
                 refine ⟨rfl, ?_⟩
                 unfold qB
                 rw [if_pos c51]
               · rw [up2_keep (by omega), up2_keep (by omega), e2]
                 exact hrows j (by omega))
          | (have c51 : ¬ sort = 2 := fun h => c51 (by rw [up2_row (by omega)]; exact hs2.mpr h)
             refine h70 _ _ _ (hoj1.up (Or.inr (Or.inl rfl))) ?_ (fun j hj => ?_)
             · rw [up2_row (by omega), up2_row (by omega)]
               exact hmay
             · rw [up2_row (b := 132 + p) (by omega)]
               by_cases ej : j = k
               · rw [ej, up2_s, up2_s]
                 refine ⟨rfl, ?_⟩
                 unfold qB
                 rw [if_neg c51]
                 decide
               · rw [up2_keep (by omega), up2_keep (by omega), up2_row (by omega)]
                 exact hrows j (by omega))
  have h00 : Off (offL p) mi (up2 mi 145 p 0) := Off.rf.up (Or.inr (Or.inr (Or.inl ⟨rfl, rfl⟩)))
  refine V_aload_n dX4_layChoices_0 rfl ?_
  refine V_getr (b := 145) 4 3 dX4_layChoices_1 (Or.inl lkX4_19) rfl rfl ⟨by omega, by omega⟩ (hR _ _ _ rfl) ?_
  refine V_iload_n dX4_layChoices_4 rfl ?_
  refine V_iconst (v := 0) dX4_layChoices_5 rfl ?_
  refine V_iast (len := 6) p dX4_layChoices_6 rfl ⟨by omega, by omega⟩ hx (by omega) ?_
  refine V_iconst (v := 0) dX4_layChoices_7 rfl ?_
  refine V_istore_n (L' := [_, _, _, _, _, _]) dX4_layChoices_8 (by decide) rfl rfl ?_
  exact loop (cW c + 1) 0 _ _ _ _ (by omega) (by decide) h00 (by rw [up2_s]; rfl) (fun j hj => absurd hj (Nat.not_lt_zero j))
set_option maxRecDepth 4000 in
theorem qX4_lookAhead (n : Nat) (mi : MI) (mr : MR) (hR : RF mr) (hn : 186 ≤ n) (sort W : Nat) (hs3 : sort < 3) (M : Nat → Nat → Bool) (A B : Nat → Nat → Int) (x : Int32) (p : Nat) (hx : x.toInt = (p : Int)) (hp : p < 6) (hW : nat (mi 40 2) W) (hW5 : W ≤ 5) (hso : mi 130 11 = nI sort) (hmay : mi 145 p = bitsTo (M p) (W + 1)) (hrows : ∀ j, j ≤ W → (mi (132 + p) j).toInt = A p j ∧ (mi (139 + p) j).toInt = B p j) (hB9 : ∀ j, j ≤ W → 0 ≤ B p j ∧ B p j ≤ 9000) (g2 g3 g4 : Int) (h2 : (mi 150 (p + 1)).toInt = g2) (h3 : (mi 151 (p + 1)).toInt = g3) (h4 : (mi 152 (p + 1)).toInt = g4) (h29 : 0 ≤ g2 ∧ g2 ≤ 60000) : Ct KX4_lookAhead 2 0 0 [.ref 130, .int x] n mi mr (fun r n' mi' mr' => none = r ∧ n = n' ∧ mr = mr' ∧ Off (fun a k => 149 ≤ a ∧ a ≤ 152 ∧ k = p) mi mi' ∧ mi' 149 p = mi 149 (p + 1) + b01 (mustB M sort W p = true) ∧ (mi' 150 p).toInt = g2 + mxc (M p) (B p) 0 (W + 1) ∧ (mi' 151 p).toInt = min g3 (mxc (M p) (A p) (-1000000) (W + 1)) ∧ (mi' 152 p).toInt = max g4 (mnc (M p) (A p) 1000000 (W + 1))) := by
  refine Ct.of2 [some (.ref 130), some (.int x), none, none, none, none] (by decide +kernel) (Nat.le_of_ble_eq_true rfl) rfl ?_
  have hs2 : mi 130 11 = 2 ↔ sort = 2 := sort_c hso hs3 2 (by decide)
  have hmx := mxc_bd (M := M p) (B := B p) (z := 0) (a := 0) (b := 9000) (by decide) (k := W + 1) (fun c hc => hB9 c (by omega))
  have h133 : ∀ (b y o z5 : Int32), b.toInt = mxc (M p) (B p) 0 (W + 1) → y.toInt = mnc (M p) (A p) 1000000 (W + 1) → o.toInt = mxc (M p) (A p) (-1000000) (W + 1) → z5 = b01 (mustB M sort W p = true) → V KX4_lookAhead 2 0 0 (fun r n' mi' mr' => none = r ∧ n = n' ∧ mr = mr' ∧ Off (fun a k => 149 ≤ a ∧ a ≤ 152 ∧ k = p) mi mi' ∧ mi' 149 p = mi 149 (p + 1) + b01 (mustB M sort W p = true) ∧ (mi' 150 p).toInt = g2 + mxc (M p) (B p) 0 (W + 1) ∧ (mi' 151 p).toInt = min g3 (mxc (M p) (A p) (-1000000) (W + 1)) ∧ (mi' 152 p).toInt = max g4 (mnc (M p) (A p) 1000000 (W + 1))) 133 [some (.ref 130), some (.int x), some (.int b), some (.int y), some (.int o), some (.int z5)] [] n mi mr := by
    intro b y o z5 hb hy ho hz
    subst hz
    refine V_aload_n dX4_lookAhead_133 rfl ?_
    refine V_getr (b := 149) 4 7 dX4_lookAhead_134 (Or.inl lkX4_32) rfl rfl ⟨by omega, by omega⟩ (hR _ _ _ rfl) ?_
    refine V_iload_n dX4_lookAhead_137 rfl ?_
    refine V_aload_n dX4_lookAhead_138 rfl ?_
    refine V_getr (b := 149) 4 7 dX4_lookAhead_139 (Or.inl lkX4_32) rfl rfl ⟨by omega, by omega⟩ (hR _ _ _ rfl) ?_
    refine V_iload_n dX4_lookAhead_142 rfl ?_
    refine V_iconst (v := 1) dX4_lookAhead_143 rfl ?_
    refine V_iadd dX4_lookAhead_144 ?_
    refine V_iald (len := 7) (p + 1) dX4_lookAhead_145 rfl ⟨by omega, by omega⟩ (ix_add hx (by decide) (by omega)) (by omega) ?_
    refine V_iload dX4_lookAhead_146 rfl ?_
    refine V_if_eq (tgt := 155) dX4_lookAhead_148 (by decide) (fun c148 => ?_) (fun c148 => ?_)
    · refine V_iconst (v := 0) dX4_lookAhead_155 rfl ?_
      refine V_iadd dX4_lookAhead_156 ?_
      refine V_iast (len := 7) p dX4_lookAhead_157 rfl ⟨by omega, by omega⟩ hx (by omega) ?_
      refine V_aload_n dX4_lookAhead_158 rfl ?_
      refine V_getr (b := 150) 4 8 dX4_lookAhead_159 (Or.inl lkX4_35) rfl rfl ⟨by omega, by omega⟩ (hR _ _ _ rfl) ?_
      refine V_iload_n dX4_lookAhead_162 rfl ?_
      refine V_aload_n dX4_lookAhead_163 rfl ?_
      refine V_getr (b := 150) 4 8 dX4_lookAhead_164 (Or.inl lkX4_35) rfl rfl ⟨by omega, by omega⟩ (hR _ _ _ rfl) ?_
      refine V_iload_n dX4_lookAhead_167 rfl ?_
      refine V_iconst (v := 1) dX4_lookAhead_168 rfl ?_
      refine V_iadd dX4_lookAhead_169 ?_
      refine V_iald (len := 7) (p + 1) dX4_lookAhead_170 rfl ⟨by omega, by omega⟩ (ix_add hx (by decide) (by omega)) (by omega) ?_
      refine V_iload_n dX4_lookAhead_171 rfl ?_
      refine V_iadd dX4_lookAhead_172 ?_
      refine V_iast (len := 7) p dX4_lookAhead_173 rfl ⟨by omega, by omega⟩ hx (by omega) ?_
      refine V_aload_n dX4_lookAhead_174 rfl ?_
      refine V_getr (b := 151) 4 9 dX4_lookAhead_175 (Or.inl lkX4_38) rfl rfl ⟨by omega, by omega⟩ (hR _ _ _ rfl) ?_
      refine V_iload_n dX4_lookAhead_178 rfl ?_
      refine V_aload_n dX4_lookAhead_179 rfl ?_
      refine V_getr (b := 151) 4 9 dX4_lookAhead_180 (Or.inl lkX4_38) rfl rfl ⟨by omega, by omega⟩ (hR _ _ _ rfl) ?_
      refine V_iload_n dX4_lookAhead_183 rfl ?_
      refine V_iconst (v := 1) dX4_lookAhead_184 rfl ?_
      refine V_iadd dX4_lookAhead_185 ?_
      refine V_iald (len := 7) (p + 1) dX4_lookAhead_186 rfl ⟨by omega, by omega⟩ (ix_add hx (by decide) (by omega)) (by omega) ?_
      refine V_iload dX4_lookAhead_187 rfl ?_
      refine V_min dX4_lookAhead_189 mlX4_116 sm_min iniJ9 cm_min (by decide) (Nat.le_of_ble_eq_true rfl) ?_
      refine V_iast (len := 7) p dX4_lookAhead_192 rfl ⟨by omega, by omega⟩ hx (by omega) ?_
      refine V_aload_n dX4_lookAhead_193 rfl ?_
      refine V_getr (b := 152) 4 10 dX4_lookAhead_194 (Or.inl lkX4_41) rfl rfl ⟨by omega, by omega⟩ (hR _ _ _ rfl) ?_
      refine V_iload_n dX4_lookAhead_197 rfl ?_
      refine V_aload_n dX4_lookAhead_198 rfl ?_
      refine V_getr (b := 152) 4 10 dX4_lookAhead_199 (Or.inl lkX4_41) rfl rfl ⟨by omega, by omega⟩ (hR _ _ _ rfl) ?_
      refine V_iload_n dX4_lookAhead_202 rfl ?_
      refine V_iconst (v := 1) dX4_lookAhead_203 rfl ?_
      refine V_iadd dX4_lookAhead_204 ?_
      refine V_iald (len := 7) (p + 1) dX4_lookAhead_205 rfl ⟨by omega, by omega⟩ (ix_add hx (by decide) (by omega)) (by omega) ?_
      refine V_iload_n dX4_lookAhead_206 rfl ?_
      refine V_max dX4_lookAhead_207 mlX4_111 sm_max iniJ9 cm_max (by decide) (Nat.le_of_ble_eq_true rfl) ?_
      refine V_iast (len := 7) p dX4_lookAhead_210 rfl ⟨by omega, by omega⟩ hx (by omega) ?_
      refine V_ret dX4_lookAhead_211 rfl ?_
      refine ⟨rfl, rfl, rfl, ?_, ?_, ?_, ?_, ?_⟩
      · exact (((Off.rf.up ⟨by omega, by omega, rfl⟩).up ⟨by omega, by omega, rfl⟩).up ⟨by omega, by omega, rfl⟩).up ⟨by omega, by omega, rfl⟩
      · rw [up2_row (by omega), up2_row (by omega), up2_row (by omega), up2_s]
        first
          | (rw [b01_t (b01_n.mp c148)]; done)
          | (rw [b01_f (b01_0.mp c148)]; done)
      · rw [up2_row (by omega), up2_row (by omega), up2_s, up2_row (by omega)]
        exact i_add h2 hb (by omega)
      · rw [up2_row (by omega), up2_s, up2_row (by omega), up2_row (by omega)]
        exact i_min h3 ho
      · rw [up2_s, up2_row (by omega), up2_row (by omega), up2_row (by omega)]
        exact i_max h4 hy
    · refine V_iconst (v := 1) dX4_lookAhead_151 rfl ?_
      refine V_goto (tgt := 156) dX4_lookAhead_152 (by decide) ?_
      refine V_iadd dX4_lookAhead_156 ?_
      refine V_iast (len := 7) p dX4_lookAhead_157 rfl ⟨by omega, by omega⟩ hx (by omega) ?_
      refine V_aload_n dX4_lookAhead_158 rfl ?_
      refine V_getr (b := 150) 4 8 dX4_lookAhead_159 (Or.inl lkX4_35) rfl rfl ⟨by omega, by omega⟩ (hR _ _ _ rfl) ?_
      refine V_iload_n dX4_lookAhead_162 rfl ?_
      refine V_aload_n dX4_lookAhead_163 rfl ?_
      refine V_getr (b := 150) 4 8 dX4_lookAhead_164 (Or.inl lkX4_35) rfl rfl ⟨by omega, by omega⟩ (hR _ _ _ rfl) ?_
      refine V_iload_n dX4_lookAhead_167 rfl ?_
      refine V_iconst (v := 1) dX4_lookAhead_168 rfl ?_
      refine V_iadd dX4_lookAhead_169 ?_
      refine V_iald (len := 7) (p + 1) dX4_lookAhead_170 rfl ⟨by omega, by omega⟩ (ix_add hx (by decide) (by omega)) (by omega) ?_
      refine V_iload_n dX4_lookAhead_171 rfl ?_
      refine V_iadd dX4_lookAhead_172 ?_
      refine V_iast (len := 7) p dX4_lookAhead_173 rfl ⟨by omega, by omega⟩ hx (by omega) ?_
      refine V_aload_n dX4_lookAhead_174 rfl ?_
      refine V_getr (b := 151) 4 9 dX4_lookAhead_175 (Or.inl lkX4_38) rfl rfl ⟨by omega, by omega⟩ (hR _ _ _ rfl) ?_
      refine V_iload_n dX4_lookAhead_178 rfl ?_
      refine V_aload_n dX4_lookAhead_179 rfl ?_
      refine V_getr (b := 151) 4 9 dX4_lookAhead_180 (Or.inl lkX4_38) rfl rfl ⟨by omega, by omega⟩ (hR _ _ _ rfl) ?_
      refine V_iload_n dX4_lookAhead_183 rfl ?_
      refine V_iconst (v := 1) dX4_lookAhead_184 rfl ?_
      refine V_iadd dX4_lookAhead_185 ?_
      refine V_iald (len := 7) (p + 1) dX4_lookAhead_186 rfl ⟨by omega, by omega⟩ (ix_add hx (by decide) (by omega)) (by omega) ?_
      refine V_iload dX4_lookAhead_187 rfl ?_
      refine V_min dX4_lookAhead_189 mlX4_116 sm_min iniJ9 cm_min (by decide) (Nat.le_of_ble_eq_true rfl) ?_
      refine V_iast (len := 7) p dX4_lookAhead_192 rfl ⟨by omega, by omega⟩ hx (by omega) ?_
      refine V_aload_n dX4_lookAhead_193 rfl ?_
      refine V_getr (b := 152) 4 10 dX4_lookAhead_194 (Or.inl lkX4_41) rfl rfl ⟨by omega, by omega⟩ (hR _ _ _ rfl) ?_
      refine V_iload_n dX4_lookAhead_197 rfl ?_
      refine V_aload_n dX4_lookAhead_198 rfl ?_
      refine V_getr (b := 152) 4 10 dX4_lookAhead_199 (Or.inl lkX4_41) rfl rfl ⟨by omega, by omega⟩ (hR _ _ _ rfl) ?_
      refine V_iload_n dX4_lookAhead_202 rfl ?_
      refine V_iconst (v := 1) dX4_lookAhead_203 rfl ?_
      refine V_iadd dX4_lookAhead_204 ?_
      refine V_iald (len := 7) (p + 1) dX4_lookAhead_205 rfl ⟨by omega, by omega⟩ (ix_add hx (by decide) (by omega)) (by omega) ?_
      refine V_iload_n dX4_lookAhead_206 rfl ?_
      refine V_max dX4_lookAhead_207 mlX4_111 sm_max iniJ9 cm_max (by decide) (Nat.le_of_ble_eq_true rfl) ?_
      refine V_iast (len := 7) p dX4_lookAhead_210 rfl ⟨by omega, by omega⟩ hx (by omega) ?_
      refine V_ret dX4_lookAhead_211 rfl ?_
      refine ⟨rfl, rfl, rfl, ?_, ?_, ?_, ?_, ?_⟩
      · exact (((Off.rf.up ⟨by omega, by omega, rfl⟩).up ⟨by omega, by omega, rfl⟩).up ⟨by omega, by omega, rfl⟩).up ⟨by omega, by omega, rfl⟩
      · rw [up2_row (by omega), up2_row (by omega), up2_row (by omega), up2_s]
        first
          | (rw [b01_t (b01_n.mp c148)]; done)
          | (rw [b01_f (b01_0.mp c148)]; done)
      · rw [up2_row (by omega), up2_row (by omega), up2_s, up2_row (by omega)]
        exact i_add h2 hb (by omega)
      · rw [up2_row (by omega), up2_s, up2_row (by omega), up2_row (by omega)]
        exact i_min h3 ho
      · rw [up2_s, up2_row (by omega), up2_row (by omega), up2_row (by omega)]
        exact i_max h4 hy
  have loop : ∀ (m k : Nat) (b y o u : Int32), k + m = W + 1 → u.toInt = (k : Int) → b.toInt = mxc (M p) (B p) 0 k → y.toInt = mnc (M p) (A p) 1000000 k → o.toInt = mxc (M p) (A p) (-1000000) k → V KX4_lookAhead 2 0 0 (fun r n' mi' mr' => none = r ∧ n = n' ∧ mr = mr' ∧ Off (fun a k => 149 ≤ a ∧ a ≤ 152 ∧ k = p) mi mi' ∧ mi' 149 p = mi 149 (p + 1) + b01 (mustB M sort W p = true) ∧ (mi' 150 p).toInt = g2 + mxc (M p) (B p) 0 (W + 1) ∧ (mi' 151 p).toInt = min g3 (mxc (M p) (A p) (-1000000) (W + 1)) ∧ (mi' 152 p).toInt = max g4 (mnc (M p) (A p) 1000000 (W + 1))) 12 [some (.ref 130), some (.int x), some (.int b), some (.int y), some (.int o), some (.int u)] [] n mi mr := by
    intro m
    induction m with
    | zero =>
      intro k b y o u hkm hu hb hy ho
      have hk : k = W + 1 := by omega
      rw [hk] at hb hy ho
      refine V_iload dX4_lookAhead_12 rfl ?_
      refine V_aload_n dX4_lookAhead_14 rfl ?_
      refine V_getr (b := 40) 4 0 dX4_lookAhead_15 (Or.inl lkX4_44) rfl rfl ⟨by omega, by omega⟩ (hR _ _ _ rfl) ?_
      refine V_geti 6 2 dX4_lookAhead_18 lnX4_88 rfl rfl ⟨by omega, by omega⟩ ?_
      refine V_icmp_gt (tgt := 89) dX4_lookAhead_21 (by decide) (fun c21 => ?_) (fun c21 => absurd ((lt_nat hW hu).mpr (by omega)) c21)
      have hone := bits_one (f := M p) hW5
      have hlow := bits_low (f := M p) (N := W + 1) (by omega) (by omega)
      rw [← hmay] at hone hlow
      refine V_aload_n dX4_lookAhead_89 rfl ?_
      refine V_geti 4 11 dX4_lookAhead_90 (Or.inl lkX4_79) rfl rfl ⟨by omega, by omega⟩ ?_
      refine V_iconst (v := 2) dX4_lookAhead_93 rfl ?_
      refine V_icmp_ne (tgt := 115) dX4_lookAhead_94 (by decide) (fun c94 => ?_) (fun c94 => ?_)
      · refine V_aload_n dX4_lookAhead_115 rfl ?_
        refine V_getr (b := 145) 4 3 dX4_lookAhead_116 (Or.inl lkX4_19) rfl rfl ⟨by omega, by omega⟩ (hR _ _ _ rfl) ?_
        refine V_iload_n dX4_lookAhead_119 rfl ?_
        refine V_iald (len := 6) p dX4_lookAhead_120 rfl ⟨by omega, by omega⟩ hx (by omega) ?_
        refine V_iconst (v := 1) dX4_lookAhead_121 rfl ?_
        refine V_iand dX4_lookAhead_122 ?_
        refine V_if_ne (tgt := 130) dX4_lookAhead_123 (by decide) (fun c123 => ?_) (fun c123 => ?_)
        · refine V_iconst (v := 0) dX4_lookAhead_130 rfl ?_
          refine V_istore (L' := [_, _, _, _, _, _]) dX4_lookAhead_131 (by decide) rfl rfl ?_
          refine h133 _ _ _ _ hb hy ho ?_
          first
            | (have s2 : sort = 2 := hs2.mp c94
               first
                 | exact (b01_t (by
                     unfold mustB
                     rw [if_pos s2]
                     cases e0 : M p 0 with
                     | false => rfl
                     | true =>
                       cases e1 : (List.range W).any (fun c => M p (c + 1)) with
                       | true => rfl
                       | false => exact absurd (hone.mpr ⟨e0, e1⟩) c104)).symm
                 | exact (b01_f (by
                     unfold mustB
                     rw [if_pos s2, (hone.mp c104).1, (hone.mp c104).2]
                     exact Bool.noConfusion)).symm)
            | (have s2 : ¬ sort = 2 := fun h => c94 (hs2.mpr h)
               first
                 | exact (b01_t (by
                     unfold mustB
                     rw [if_neg s2]
                     cases e0 : M p 0 with
                     | false => rfl
                     | true =>
                       rw [hlow, e0] at c123
                       exact absurd c123 (by decide))).symm
                 | exact (b01_f (by
                     unfold mustB
                     rw [if_neg s2]
                     cases e0 : M p 0 with
                     | true => exact Bool.noConfusion
                     | false =>
                       rw [hlow, e0] at c123
                       exact absurd (by decide) c123)).symm)
        · refine V_iconst (v := 1) dX4_lookAhead_126 rfl ?_
          refine V_goto (tgt := 131) dX4_lookAhead_127 (by decide) ?_
          refine V_istore (L' := [_, _, _, _, _, _]) dX4_lookAhead_131 (by decide) rfl rfl ?_
          refine h133 _ _ _ _ hb hy ho ?_
          first
            | (have s2 : sort = 2 := hs2.mp c94
               first
                 | exact (b01_t (by
                     unfold mustB
                     rw [if_pos s2]
                     cases e0 : M p 0 with
                     | false => rfl
                     | true =>
                       cases e1 : (List.range W).any (fun c => M p (c + 1)) with
                       | true => rfl
                       | false => exact absurd (hone.mpr ⟨e0, e1⟩) c104)).symm
                 | exact (b01_f (by
                     unfold mustB
                     rw [if_pos s2, (hone.mp c104).1, (hone.mp c104).2]
                     exact Bool.noConfusion)).symm)
            | (have s2 : ¬ sort = 2 := fun h => c94 (hs2.mpr h)
               first
                 | exact (b01_t (by
                     unfold mustB
                     rw [if_neg s2]
                     cases e0 : M p 0 with
                     | false => rfl
                     | true =>
                       rw [hlow, e0] at c123
                       exact absurd c123 (by decide))).symm
                 | exact (b01_f (by
                     unfold mustB
                     rw [if_neg s2]
                     cases e0 : M p 0 with
                     | true => exact Bool.noConfusion
                     | false =>
                       rw [hlow, e0] at c123
                       exact absurd (by decide) c123)).symm)
      · refine V_aload_n dX4_lookAhead_97 rfl ?_
        refine V_getr (b := 145) 4 3 dX4_lookAhead_98 (Or.inl lkX4_19) rfl rfl ⟨by omega, by omega⟩ (hR _ _ _ rfl) ?_
        refine V_iload_n dX4_lookAhead_101 rfl ?_
        refine V_iald (len := 6) p dX4_lookAhead_102 rfl ⟨by omega, by omega⟩ hx (by omega) ?_
        refine V_iconst (v := 1) dX4_lookAhead_103 rfl ?_
        refine V_icmp_eq (tgt := 111) dX4_lookAhead_104 (by decide) (fun c104 => ?_) (fun c104 => ?_)
        · refine V_iconst (v := 0) dX4_lookAhead_111 rfl ?_
          refine V_goto (tgt := 131) dX4_lookAhead_112 (by decide) ?_
          refine V_istore (L' := [_, _, _, _, _, _]) dX4_lookAhead_131 (by decide) rfl rfl ?_
          refine h133 _ _ _ _ hb hy ho ?_
          first
            | (have s2 : sort = 2 := hs2.mp c94
               first
                 | exact (b01_t (by
                     unfold mustB
                     rw [if_pos s2]
                     cases e0 : M p 0 with
                     | false => rfl
                     | true =>
                       cases e1 : (List.range W).any (fun c => M p (c + 1)) with
                       | true => rfl
                       | false => exact absurd (hone.mpr ⟨e0, e1⟩) c104)).symm
                 | exact (b01_f (by
                     unfold mustB
                     rw [if_pos s2, (hone.mp c104).1, (hone.mp c104).2]
                     exact Bool.noConfusion)).symm)
            | (have s2 : ¬ sort = 2 := fun h => c94 (hs2.mpr h)
               first
                 | exact (b01_t (by
                     unfold mustB
                     rw [if_neg s2]
                     cases e0 : M p 0 with
                     | false => rfl
                     | true =>
                       rw [hlow, e0] at c123
                       exact absurd c123 (by decide))).symm
                 | exact (b01_f (by
                     unfold mustB
                     rw [if_neg s2]
                     cases e0 : M p 0 with
                     | true => exact Bool.noConfusion
                     | false =>
                       rw [hlow, e0] at c123
                       exact absurd (by decide) c123)).symm)
        · refine V_iconst (v := 1) dX4_lookAhead_107 rfl ?_
          refine V_goto (tgt := 131) dX4_lookAhead_108 (by decide) ?_
          refine V_istore (L' := [_, _, _, _, _, _]) dX4_lookAhead_131 (by decide) rfl rfl ?_
          refine h133 _ _ _ _ hb hy ho ?_
          first
            | (have s2 : sort = 2 := hs2.mp c94
               first
                 | exact (b01_t (by
                     unfold mustB
                     rw [if_pos s2]
                     cases e0 : M p 0 with
                     | false => rfl
                     | true =>
                       cases e1 : (List.range W).any (fun c => M p (c + 1)) with
                       | true => rfl
                       | false => exact absurd (hone.mpr ⟨e0, e1⟩) c104)).symm
                 | exact (b01_f (by
                     unfold mustB
                     rw [if_pos s2, (hone.mp c104).1, (hone.mp c104).2]
                     exact Bool.noConfusion)).symm)
            | (have s2 : ¬ sort = 2 := fun h => c94 (hs2.mpr h)
               first
                 | exact (b01_t (by
                     unfold mustB
                     rw [if_neg s2]
                     cases e0 : M p 0 with
                     | false => rfl
                     | true =>
                       rw [hlow, e0] at c123
                       exact absurd c123 (by decide))).symm
                 | exact (b01_f (by
                     unfold mustB
                     rw [if_neg s2]
                     cases e0 : M p 0 with
                     | true => exact Bool.noConfusion
                     | false =>
                       rw [hlow, e0] at c123
                       exact absurd (by decide) c123)).symm)
    | succ m ih =>
      intro k b y o u hkm hu hb hy ho
      have hk5 : k ≤ W := by omega
      have hbit := bits_bit (f := M p) (N := W + 1) (p := k) (by omega) (by omega)
      rw [← hmay, ← nI_of_toInt hu] at hbit
      refine V_iload dX4_lookAhead_12 rfl ?_
      refine V_aload_n dX4_lookAhead_14 rfl ?_
      refine V_getr (b := 40) 4 0 dX4_lookAhead_15 (Or.inl lkX4_44) rfl rfl ⟨by omega, by omega⟩ (hR _ _ _ rfl) ?_
      refine V_geti 6 2 dX4_lookAhead_18 lnX4_88 rfl rfl ⟨by omega, by omega⟩ ?_
      refine V_icmp_gt (tgt := 89) dX4_lookAhead_21 (by decide) (fun c21 => absurd ((lt_nat hW hu).mp c21) (by omega)) (fun c21 => ?_)
      refine V_aload_n dX4_lookAhead_24 rfl ?_
      refine V_getr (b := 145) 4 3 dX4_lookAhead_25 (Or.inl lkX4_19) rfl rfl ⟨by omega, by omega⟩ (hR _ _ _ rfl) ?_
      refine V_iload_n dX4_lookAhead_28 rfl ?_
      refine V_iald (len := 6) p dX4_lookAhead_29 rfl ⟨by omega, by omega⟩ hx (by omega) ?_
      refine V_iload dX4_lookAhead_30 rfl ?_
      refine V_ishr dX4_lookAhead_32 ?_
      refine V_iconst (v := 1) dX4_lookAhead_33 rfl ?_
      refine V_iand dX4_lookAhead_34 ?_
      refine V_iconst (v := 1) dX4_lookAhead_35 rfl ?_
      refine V_icmp_ne (tgt := 83) dX4_lookAhead_36 (by decide) (fun c36 => ?_) (fun c36 => ?_)
      · refine V_iinc (v := _ + (1)) (L' := [_, _, _, _, _, _]) dX4_lookAhead_83 (by decide) rfl rfl rfl rfl ?_
        refine V_goto (tgt := 12) dX4_lookAhead_86 (by decide) ?_
        have e1 : mxc (M p) (B p) 0 (k + 1) = if M p k = true then max (mxc (M p) (B p) 0 k) (B p k) else mxc (M p) (B p) 0 k := rfl
        have e2 : mnc (M p) (A p) 1000000 (k + 1) = if M p k = true then min (mnc (M p) (A p) 1000000 k) (A p k) else mnc (M p) (A p) 1000000 k := rfl
        have e3 : mxc (M p) (A p) (-1000000) (k + 1) = if M p k = true then max (mxc (M p) (A p) (-1000000) k) (A p k) else mxc (M p) (A p) (-1000000) k := rfl
        first
          | (have hM : M p k = true := by
               cases e : M p k with
               | true => rfl
               | false =>
                 rw [hbit, e] at c36
                 exact absurd c36 (by decide)
             rw [if_pos hM] at e1 e2 e3
             refine ih (k + 1) _ _ _ _ (by omega) (ix_add hu (by decide) (by omega)) ?_ ?_ ?_
             · rw [e1]; exact i_max hb (hrows k hk5).2
             · rw [e2]; exact i_min hy (hrows k hk5).1
             · rw [e3]; exact i_max ho (hrows k hk5).1)
          | (have hM : ¬ M p k = true := fun h => c36 (by rw [hbit, if_pos h])
             rw [if_neg hM] at e1 e2 e3
             refine ih (k + 1) _ _ _ _ (by omega) (ix_add hu (by decide) (by omega)) ?_ ?_ ?_
             · rw [e1]; exact hb
             · rw [e2]; exact hy
             · rw [e3]; exact ho)
      · refine V_iload_n dX4_lookAhead_39 rfl ?_
        refine V_aload_n dX4_lookAhead_40 rfl ?_
        refine V_getr (b := 138) 4 2 dX4_lookAhead_41 (Or.inl lkX4_16) rfl rfl ⟨by omega, by omega⟩ (hR _ _ _ rfl) ?_
        refine V_iload_n dX4_lookAhead_44 rfl ?_
        refine V_aald (len := 6) (b := (139 + p)) 3 p dX4_lookAhead_45 rfl rfl ⟨by omega, by omega⟩ hx (by omega) (hR _ _ _ (sSr (by omega)).2.2.2) ?_
        refine V_iload dX4_lookAhead_46 rfl ?_
        refine V_iald (len := 6) k dX4_lookAhead_48 (sSr (by omega)).2.1 ⟨by omega, by omega⟩ hu (by omega) ?_
        refine V_max dX4_lookAhead_49 mlX4_111 sm_max iniJ9 cm_max (by decide) (Nat.le_of_ble_eq_true rfl) ?_
        refine V_istore_n (L' := [_, _, _, _, _, _]) dX4_lookAhead_52 (by decide) rfl rfl ?_
        refine V_iload_n dX4_lookAhead_53 rfl ?_
        refine V_aload_n dX4_lookAhead_54 rfl ?_
        refine V_getr (b := 131) 4 1 dX4_lookAhead_55 (Or.inl lkX4_13) rfl rfl ⟨by omega, by omega⟩ (hR _ _ _ rfl) ?_
        refine V_iload_n dX4_lookAhead_58 rfl ?_
        refine V_aald (len := 6) (b := (132 + p)) 3 p dX4_lookAhead_59 rfl rfl ⟨by omega, by omega⟩ hx (by omega) (hR _ _ _ (sSr (by omega)).2.2.1) ?_
        refine V_iload dX4_lookAhead_60 rfl ?_
        refine V_iald (len := 6) k dX4_lookAhead_62 (sSr (by omega)).1 ⟨by omega, by omega⟩ hu (by omega) ?_
        refine V_min dX4_lookAhead_63 mlX4_116 sm_min iniJ9 cm_min (by decide) (Nat.le_of_ble_eq_true rfl) ?_
        refine V_istore_n (L' := [_, _, _, _, _, _]) dX4_lookAhead_66 (by decide) rfl rfl ?_
        refine V_iload dX4_lookAhead_67 rfl ?_
        refine V_aload_n dX4_lookAhead_69 rfl ?_
        refine V_getr (b := 131) 4 1 dX4_lookAhead_70 (Or.inl lkX4_13) rfl rfl ⟨by omega, by omega⟩ (hR _ _ _ rfl) ?_
        refine V_iload_n dX4_lookAhead_73 rfl ?_
        refine V_aald (len := 6) (b := (132 + p)) 3 p dX4_lookAhead_74 rfl rfl ⟨by omega, by omega⟩ hx (by omega) (hR _ _ _ (sSr (by omega)).2.2.1) ?_
        refine V_iload dX4_lookAhead_75 rfl ?_
        refine V_iald (len := 6) k dX4_lookAhead_77 (sSr (by omega)).1 ⟨by omega, by omega⟩ hu (by omega) ?_
        refine V_max dX4_lookAhead_78 mlX4_111 sm_max iniJ9 cm_max (by decide) (Nat.le_of_ble_eq_true rfl) ?_
        refine V_istore (L' := [_, _, _, _, _, _]) dX4_lookAhead_81 (by decide) rfl rfl ?_
        refine V_iinc (v := _ + (1)) (L' := [_, _, _, _, _, _]) dX4_lookAhead_83 (by decide) rfl rfl rfl rfl ?_
        refine V_goto (tgt := 12) dX4_lookAhead_86 (by decide) ?_
        have e1 : mxc (M p) (B p) 0 (k + 1) = if M p k = true then max (mxc (M p) (B p) 0 k) (B p k) else mxc (M p) (B p) 0 k := rfl
        have e2 : mnc (M p) (A p) 1000000 (k + 1) = if M p k = true then min (mnc (M p) (A p) 1000000 k) (A p k) else mnc (M p) (A p) 1000000 k := rfl
        have e3 : mxc (M p) (A p) (-1000000) (k + 1) = if M p k = true then max (mxc (M p) (A p) (-1000000) k) (A p k) else mxc (M p) (A p) (-1000000) k := rfl
        first
          | (have hM : M p k = true := by
               cases e : M p k with
               | true => rfl
               | false =>
                 rw [hbit, e] at c36
                 exact absurd c36 (by decide)
             rw [if_pos hM] at e1 e2 e3
             refine ih (k + 1) _ _ _ _ (by omega) (ix_add hu (by decide) (by omega)) ?_ ?_ ?_
             · rw [e1]; exact i_max hb (hrows k hk5).2
             · rw [e2]; exact i_min hy (hrows k hk5).1
             · rw [e3]; exact i_max ho (hrows k hk5).1)
          | (have hM : ¬ M p k = true := fun h => c36 (by rw [hbit, if_pos h])
             rw [if_neg hM] at e1 e2 e3
             refine ih (k + 1) _ _ _ _ (by omega) (ix_add hu (by decide) (by omega)) ?_ ?_ ?_
             · rw [e1]; exact hb
             · rw [e2]; exact hy
             · rw [e3]; exact ho)
  refine V_iconst (v := 0) dX4_lookAhead_0 rfl ?_
  refine V_istore_n (L' := [_, _, _, _, _, _]) dX4_lookAhead_1 (by decide) rfl rfl ?_
  refine V_ldc dX4_lookAhead_2 kX4_65 ?_
  refine V_istore_n (L' := [_, _, _, _, _, _]) dX4_lookAhead_4 (by decide) rfl rfl ?_
  refine V_ldc dX4_lookAhead_5 kX4_66 ?_
  refine V_istore (L' := [_, _, _, _, _, _]) dX4_lookAhead_7 (by decide) rfl rfl ?_
  refine V_iconst (v := 0) dX4_lookAhead_9 rfl ?_
  refine V_istore (L' := [_, _, _, _, _, _]) dX4_lookAhead_10 (by decide) rfl rfl ?_
  exact loop (W + 1) 0 _ _ _ _ (by omega) (by decide) (by show (0 : Int32).toInt = 0; decide) (by show (1000000 : Int32).toInt = 1000000; decide) (by show (-1000000 : Int32).toInt = -1000000; decide)
