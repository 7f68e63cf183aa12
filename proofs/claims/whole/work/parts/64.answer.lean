/-- whether each can be seated so far -/
def EQ9 (z : Int32) (P R : Prop) : Prop := z = 0 ∧ P ∨ z = 1 ∧ R
theorem EQ9.r {z : Int32} {P R : Prop} (h : EQ9 z P R) (h1 : ¬ z = 0) : R := (Or.resolve_left h (fun q => h1 q.1)).2
theorem EQ9.l {z : Int32} {P R : Prop} (h : EQ9 z P R) (h1 : z = 0) : P := (Or.resolve_right h (fun q => absurd (q.1.symm.trans h1) (by decide))).2
theorem i_of {x : Int32} {z : Int} (h : x.toInt = z) : x = Int32.ofInt z := by
  rw [← h]
  exact (Int32.ofInt_toInt x).symm
theorem cost_bd {sort N W : Nat} {A B : Nat → Nat → Int} {f : Nat → Nat} (h : okAB N W A B) (hN : N ≤ 6) (hf : ∀ q, q < N → f q ≤ W) : -60000 ≤ cCost sort N A B f ∧ cCost sort N A B f ≤ 60000 := by
  have k1 := hiTo_bd (f := f) h (Nat.le_refl N) hf
  have k2 := loTo_bd (f := f) h (Nat.le_refl N) hf
  have k3 := nvTo_bd (f := f) h (Nat.le_refl N) hf
  unfold cCost
  split
  · decide
  · split <;> omega
theorem lvs_none {M : Nat → Nat → Bool} {C : (Nat → Nat) → Int} {W N q : Nat} {lf s : Nat → Nat} (hq : q < N) (h : ∀ k, k ≤ W → M q k = false) : fdB none (lvs M C W N 0 lf s 0) = none := by
  cases e : lvs M C W N 0 lf s 0 with
  | nil => rfl
  | cons x l =>
    have hx : x ∈ lvs M C W N 0 lf s 0 := by rw [e]; exact List.mem_cons_self
    obtain ⟨k1, k2, -⟩ := lvs_ok hx q (Nat.zero_le _) (by omega)
    rw [h _ k1] at k2
    exact Bool.noConfusion k2
theorem cnt_ex {f : Nat → Bool} : ∀ {N : Nat}, ¬ cntB f N = 0 → ∃ k, k < N ∧ f k = true
  | 0, h => absurd rfl h
  | N + 1, h => by
    unfold cntB at h
    by_cases e : f N = true
    · exact ⟨N, Nat.lt_succ_self N, e⟩
    · rw [if_neg e] at h
      obtain ⟨k, k1, k2⟩ := cnt_ex h
      exact ⟨k, by omega, k2⟩
theorem cnt_no {f : Nat → Bool} : ∀ {N : Nat}, cntB f N = 0 → ∀ k, k < N → f k = false
  | 0, _, k, hk => absurd hk (Nat.not_lt_zero k)
  | N + 1, h, k, hk => by
    unfold cntB at h
    by_cases e : f N = true
    · rw [if_pos e] at h
      exact absurd h (Nat.succ_ne_zero _)
    · rw [if_neg e] at h
      by_cases e2 : k = N
      · rw [e2]
        exact Bool.eq_false_iff.mpr e
      · exact cnt_no h k (by omega)
def qZ : Nat → Nat := fun _ => 0
/-- the first of the best seatings of a sort -/
noncomputable def qBest (S : Nat → Int32) (c : CT) (nc : Nat) (e : Nat → Nat) (s nv : Nat → Int32) (sort : Nat) (set : Int32) : Option Cand := fdB none (lvs (qF S sort set) (cCost sort (cN c) (qA S) (qB S nc e s nv sort)) (cW c) (cN c) 0 (qL S) qZ 0)
theorem qBest_M {S : Nat → Int32} {c : CT} {nc : Nat} {e : Nat → Nat} {s nv : Nat → Int32} {sort : Nat} {set : Int32} (hs : sort < 3) (hN : cN c ≤ 6) : fdB none (lvs (qM S nc e s nv sort set) (cCost sort (cN c) (qA S) (qB S nc e s nv sort)) (cW c) (cN c) 0 (qL S) qZ 0) = qBest S c nc e s nv sort set := may_eq hs hN
noncomputable def qAns (best : Option Cand) (sort : Nat) (w : Int32) : Int32 := match best with
  | none => -6
  | some x => if 10 ≤ w then (if x.2.2 (w - 10).toNatClampNeg = 0 then -5 else nI (x.2.2 (w - 10).toNatClampNeg) - 1) else if sort = 0 then nI x.2.1 else if sort = 1 then Int32.ofInt x.1 else Int32.ofInt (-x.1)
theorem seat_shown {x : Int32} {k : Nat} (h : x.toInt = (k : Int)) : (if x - 1 = -1 then (-5 : Int32) else x - 1) = if k = 0 then -5 else nI k - 1 := by
  have hx := x.toInt_lt
  have e : (x - 1).toInt = (k : Int) - 1 := i_sub h (b := 1) (by decide) (by omega)
  have iff : x - 1 = -1 ↔ k = 0 := by
    rw [← Int32.toInt_inj, e]
    simp only [Int32.reduceToInt]
    omega
  by_cases h0 : k = 0
  · rw [if_pos (iff.mpr h0), if_pos h0]
  · rw [if_neg (fun q => h0 (iff.mp q)), if_neg h0, ← nI_of_toInt h]
theorem ten {w : Int32} {N : Nat} (h : 10 ≤ w) (h2 : w - 10 < nI N) (hN : N < 100) : ∃ k : Nat, (w - 10).toInt = (k : Int) ∧ k < N := by
  have hw := w.toInt_lt
  rw [Int32.le_iff_toInt_le] at h
  simp only [Int32.reduceToInt] at h
  have e : (w - 10).toInt = w.toInt - 10 := i_sub rfl (b := 10) (by decide) (by omega)
  rw [Int32.lt_iff_toInt_lt, e, nI_toInt (by omega)] at h2
  exact ⟨(w.toInt - 10).toNat, by omega, by omega⟩
def offG : Nat → Nat → Prop := fun a k => (a = 130 ∧ 11 ≤ k) ∨ a = 146 ∨ (149 ≤ a ∧ a ≤ 152)
set_option maxRecDepth 4000 in
theorem qX4_begin (n : Nat) (mi : MI) (mr : MR) (c : CT) (I : INV n mi mr c) (x : Int32) : Ct KX4_begin 1 0 0 [.ref 130, .int x] n mi mr (fun r n' mi' mr' => none = r ∧ n = n' ∧ mr = mr' ∧ Off offG mi mi' ∧ mi' 130 11 = x ∧ BSq (cN c) mi' none ∧ (∀ j, j ≤ cW c → (mi' 146 j).toInt = (qL (mi 174) j : Int)) ∧ mi' 149 (cN c) = 0 ∧ mi' 150 (cN c) = 0 ∧ mi' 151 (cN c) = 1000000 ∧ mi' 152 (cN c) = -1000000) := by
  refine Ct.of2 [some (.ref 130), some (.int x), none] (by decide +kernel) (Nat.le_of_ble_eq_true rfl) rfl ?_
  have hBD := I.2.2.1
  obtain ⟨hR, hn, ⟨⟨hN, hN6⟩, ⟨hW, hW5⟩, -⟩, hrw⟩ := I.facts
  have loop : ∀ (m k : Nat) (mj : MI) (u : Int32), k + m = cW c → u.toInt = (k : Int) → Off offG mi mj → mj 130 11 = x → BSq (cN c) mj none → (∀ j, j ≤ k → (mj 146 j).toInt = (qL (mi 174) j : Int)) → V KX4_begin 1 0 0 (fun r n' mi' mr' => none = r ∧ n = n' ∧ mr = mr' ∧ Off offG mi mi' ∧ mi' 130 11 = x ∧ BSq (cN c) mi' none ∧ (∀ j, j ≤ cW c → (mi' 146 j).toInt = (qL (mi 174) j : Int)) ∧ mi' 149 (cN c) = 0 ∧ mi' 150 (cN c) = 0 ∧ mi' 151 (cN c) = 1000000 ∧ mi' 152 (cN c) = -1000000) 32 [some (.ref 130), some (.int x), some (.int u)] [] n mj mr := by
    intro m
    induction m with
    | zero =>
      intro k mj u hkm hu hoj h11 hbs hlf
      have row : ∀ a, a < 130 → mj a = mi a := fun a ha => hoj.fn (fun k => by unfold offG; omega)
      have hWj : nat (mj 40 2) (cW c) := by rw [row 40 (by omega), hrw.1.2.2.1]; exact hW
      have hNj : nat (mj 40 1) (cN c) := by rw [row 40 (by omega), hrw.1.2.1]; exact hN
      refine V_iload_n dX4_begin_32 rfl ?_
      refine V_aload_n dX4_begin_33 rfl ?_
      refine V_getr (b := 40) 4 0 dX4_begin_34 (Or.inl lkX4_44) rfl rfl ⟨by omega, by omega⟩ (hR _ _ _ rfl) ?_
      refine V_geti 6 2 dX4_begin_37 lnX4_88 rfl rfl ⟨by omega, by omega⟩ ?_
      refine V_icmp_ge (tgt := 66) dX4_begin_40 (by decide) (fun c40 => ?_) (fun c40 => absurd ((le_nat hWj hu).mpr (by omega)) c40)
      have hNx : (mj 40 1).toInt = ((cN c : Nat) : Int) := hNj
      refine V_aload_n dX4_begin_66 rfl ?_
      refine V_getr (b := 149) 4 7 dX4_begin_67 (Or.inl lkX4_32) rfl rfl ⟨by omega, by omega⟩ (hR _ _ _ rfl) ?_
      refine V_aload_n dX4_begin_70 rfl ?_
      refine V_getr (b := 40) 4 0 dX4_begin_71 (Or.inl lkX4_44) rfl rfl ⟨by omega, by omega⟩ (hR _ _ _ rfl) ?_
      refine V_geti 6 1 dX4_begin_74 lnX4_52 rfl rfl ⟨by omega, by omega⟩ ?_
      refine V_iconst (v := 0) dX4_begin_77 rfl ?_
      refine V_iast (len := 7) (cN c) dX4_begin_78 rfl ⟨by omega, by omega⟩ hNx (by omega) ?_
      refine V_aload_n dX4_begin_79 rfl ?_
      refine V_getr (b := 150) 4 8 dX4_begin_80 (Or.inl lkX4_35) rfl rfl ⟨by omega, by omega⟩ (hR _ _ _ rfl) ?_
      refine V_aload_n dX4_begin_83 rfl ?_
      refine V_getr (b := 40) 4 0 dX4_begin_84 (Or.inl lkX4_44) rfl rfl ⟨by omega, by omega⟩ (hR _ _ _ rfl) ?_
      refine V_geti 6 1 dX4_begin_87 lnX4_52 rfl rfl ⟨by omega, by omega⟩ ?_
      refine V_iconst (v := 0) dX4_begin_90 rfl ?_
      refine V_iast (len := 7) (cN c) dX4_begin_91 rfl ⟨by omega, by omega⟩ (by rw [up2_row (by decide)]; exact hNx) (by omega) ?_
      refine V_aload_n dX4_begin_92 rfl ?_
      refine V_getr (b := 151) 4 9 dX4_begin_93 (Or.inl lkX4_38) rfl rfl ⟨by omega, by omega⟩ (hR _ _ _ rfl) ?_
      refine V_aload_n dX4_begin_96 rfl ?_
      refine V_getr (b := 40) 4 0 dX4_begin_97 (Or.inl lkX4_44) rfl rfl ⟨by omega, by omega⟩ (hR _ _ _ rfl) ?_
      refine V_geti 6 1 dX4_begin_100 lnX4_52 rfl rfl ⟨by omega, by omega⟩ ?_
      refine V_ldc dX4_begin_103 kX4_65 ?_
      refine V_iast (len := 7) (cN c) dX4_begin_105 rfl ⟨by omega, by omega⟩ (by rw [up2_row (by decide), up2_row (by decide)]; exact hNx) (by omega) ?_
      refine V_aload_n dX4_begin_106 rfl ?_
      refine V_getr (b := 152) 4 10 dX4_begin_107 (Or.inl lkX4_41) rfl rfl ⟨by omega, by omega⟩ (hR _ _ _ rfl) ?_
      refine V_aload_n dX4_begin_110 rfl ?_
      refine V_getr (b := 40) 4 0 dX4_begin_111 (Or.inl lkX4_44) rfl rfl ⟨by omega, by omega⟩ (hR _ _ _ rfl) ?_
      refine V_geti 6 1 dX4_begin_114 lnX4_52 rfl rfl ⟨by omega, by omega⟩ ?_
      refine V_ldc dX4_begin_117 kX4_66 ?_
      refine V_iast (len := 7) (cN c) dX4_begin_119 rfl ⟨by omega, by omega⟩ (by rw [up2_row (by decide), up2_row (by decide), up2_row (by decide)]; exact hNx) (by omega) ?_
      refine V_ret dX4_begin_120 rfl ?_
      have hk : k = cW c := by omega
      rw [hk] at hlf
      refine ⟨rfl, rfl, rfl, ?_, ?_, ?_, fun j hj => ?_, ?_, ?_, ?_, ?_⟩
      · exact (((hoj.up (Or.inr (Or.inr ⟨by omega, by omega⟩))).up (Or.inr (Or.inr ⟨by omega, by omega⟩))).up (Or.inr (Or.inr ⟨by omega, by omega⟩))).up (Or.inr (Or.inr ⟨by omega, by omega⟩))
      · rw [up2_row (by decide), up2_row (by decide), up2_row (by decide), up2_row (by decide)]
        exact h11
      · exact hbs.eq (fun k hk => by rw [up2_row (by decide), up2_row (by decide), up2_row (by decide), up2_row (by decide)]) (fun k => by rw [up2_row (by decide), up2_row (by decide), up2_row (by decide), up2_row (by decide)])
      · rw [up2_row (by decide), up2_row (by decide), up2_row (by decide), up2_row (by decide)]
        exact hlf j hj
      · rw [up2_row (by decide), up2_row (by decide), up2_row (by decide), up2_s]
      · rw [up2_row (by decide), up2_row (by decide), up2_s]
      · rw [up2_row (by decide), up2_s]
      · rw [up2_s]
    | succ m ih =>
      intro k mj u hkm hu hoj h11 hbs hlf
      have row : ∀ a, a < 130 → mj a = mi a := fun a ha => hoj.fn (fun k => by unfold offG; omega)
      have hWj : nat (mj 40 2) (cW c) := by rw [row 40 (by omega), hrw.1.2.2.1]; exact hW
      refine V_iload_n dX4_begin_32 rfl ?_
      refine V_aload_n dX4_begin_33 rfl ?_
      refine V_getr (b := 40) 4 0 dX4_begin_34 (Or.inl lkX4_44) rfl rfl ⟨by omega, by omega⟩ (hR _ _ _ rfl) ?_
      refine V_geti 6 2 dX4_begin_37 lnX4_88 rfl rfl ⟨by omega, by omega⟩ ?_
      refine V_icmp_ge (tgt := 66) dX4_begin_40 (by decide) (fun c40 => absurd ((le_nat hWj hu).mp c40) (by omega)) (fun c40 => ?_)
      refine V_aload_n dX4_begin_43 rfl ?_
      refine V_getr (b := 146) 4 4 dX4_begin_44 (Or.inl lkX4_23) rfl rfl ⟨by omega, by omega⟩ (hR _ _ _ rfl) ?_
      refine V_iload_n dX4_begin_47 rfl ?_
      refine V_iconst (v := 1) dX4_begin_48 rfl ?_
      refine V_iadd dX4_begin_49 ?_
      refine V_aload_n dX4_begin_50 rfl ?_
      refine V_getr (b := 40) 4 0 dX4_begin_51 (Or.inl lkX4_44) rfl rfl ⟨by omega, by omega⟩ (hR _ _ _ rfl) ?_
      refine V_getr (b := 43) 6 8 dX4_begin_54 lnX4_91 rfl rfl ⟨by omega, by omega⟩ (hR _ _ _ rfl) ?_
      refine V_iload_n dX4_begin_57 rfl ?_
      refine V_iald (len := 5) k dX4_begin_58 rfl ⟨by omega, by omega⟩ hu (by omega) ?_
      refine V_iast (len := 6) (k + 1) dX4_begin_59 rfl ⟨by omega, by omega⟩ (ix_add hu (by decide) (by omega)) (by omega) ?_
      refine V_iinc (v := _ + (1)) (L' := [_, _, _]) dX4_begin_60 (by decide) rfl rfl rfl rfl ?_
      refine V_goto (tgt := 32) dX4_begin_63 (by decide) ?_
      refine ih (k + 1) _ _ (by omega) (ix_add hu (by decide) (by omega)) (hoj.up (Or.inr (Or.inl rfl))) ?_ (hbs.eq (fun k hk => by rw [up2_row (by decide)]) (fun k => by rw [up2_row (by decide)])) (fun j hj => ?_)
      · rw [up2_row (by decide)]
        exact h11
      · by_cases ej : j = k + 1
        · rw [ej, up2_s, row 43 (by omega), (hrw.2.2.1 k (by omega)).2]
          obtain ⟨b, b1, b2⟩ := (hBD.2.2.2.2.1 k (by omega)).2
          show _ = ((mi 174 (7 + k)).toNatClampNeg : Int)
          rw [nat_of_toInt b1, b1]
        · rw [up2_keep (by omega)]
          exact hlf j (by omega)
  refine V_aload_n dX4_begin_0 rfl ?_
  refine V_iload_n dX4_begin_1 rfl ?_
  refine V_puti 4 11 dX4_begin_2 (Or.inl lkX4_79) rfl rfl rfl rfl ⟨by omega, by omega⟩ ?_
  refine V_aload_n dX4_begin_5 rfl ?_
  refine V_iconst (v := 0) dX4_begin_6 rfl ?_
  refine V_puti 4 14 dX4_begin_7 (Or.inl lkX4_71) rfl rfl rfl rfl ⟨by omega, by omega⟩ ?_
  refine V_aload_n dX4_begin_10 rfl ?_
  refine V_ldc dX4_begin_11 kX4_65 ?_
  refine V_puti 4 12 dX4_begin_13 (Or.inl lkX4_82) rfl rfl rfl rfl ⟨by omega, by omega⟩ ?_
  refine V_aload_n dX4_begin_16 rfl ?_
  refine V_ldc dX4_begin_17 kX4_65 ?_
  refine V_puti 4 13 dX4_begin_19 (Or.inl lkX4_85) rfl rfl rfl rfl ⟨by omega, by omega⟩ ?_
  refine V_aload_n dX4_begin_22 rfl ?_
  refine V_getr (b := 146) 4 4 dX4_begin_23 (Or.inl lkX4_23) rfl rfl ⟨by omega, by omega⟩ (hR _ _ _ rfl) ?_
  refine V_iconst (v := 0) dX4_begin_26 rfl ?_
  refine V_bipush (v := 6) dX4_begin_27 rfl ?_
  refine V_iast (len := 6) 0 dX4_begin_29 rfl ⟨by omega, by omega⟩ (by decide) (by omega) ?_
  refine V_iconst (v := 0) dX4_begin_30 rfl ?_
  refine V_istore_n (L' := [_, _, _]) dX4_begin_31 (by decide) rfl rfl ?_
  refine loop (cW c) 0 _ _ (by omega) (by decide) ?_ ?_ ?_ (fun j hj => ?_)
  · exact ((((Off.rf.up (Or.inl ⟨rfl, by omega⟩)).up (Or.inl ⟨rfl, by omega⟩)).up (Or.inl ⟨rfl, by omega⟩)).up (Or.inl ⟨rfl, by omega⟩)).up (Or.inr (Or.inl rfl))
  · rw [up2_row (by decide), up2_keep (by decide), up2_keep (by decide), up2_keep (by decide), up2_s]
  · refine ⟨?_, ?_, ?_⟩
    · rw [up2_row (by decide), up2_keep (by decide), up2_keep (by decide), up2_s]
    · rw [up2_row (by decide), up2_keep (by decide), up2_s]
    · rw [up2_row (by decide), up2_s]
  · have ej : j = 0 := by omega
    rw [ej, up2_s]
    rfl
set_option maxRecDepth 4000 in
theorem qX4_result (n : Nat) (mi : MI) (mr : MR) (hR : RF mr) (hn : 186 ≤ n) (sort N : Nat) (hN6 : N ≤ 6) (hs3 : sort < 3) (hso : mi 130 11 = nI sort) (z : Cand) (hbs : BSq N mi (some z)) (hz : -2147483648 < z.1) (x : Int32) (hx : x = 0 ∨ (10 ≤ x ∧ x - 10 < nI N))  : Ct KX4_result 2 0 0 [.ref 130, .int x] n mi mr (eqQ (some (.int (qAns (some z) sort x))) n mi mr) := by
  refine Ct.of2 [some (.ref 130), some (.int x)] (by decide +kernel) (Nat.le_of_ble_eq_true rfl) rfl ?_
  refine V_iload_n dX4_result_0 rfl ?_
  refine V_bipush (v := 10) dX4_result_1 rfl ?_
  refine V_icmp_lt (tgt := 21) dX4_result_3 (by decide) (fun c3 => ?_) (fun c3 => ?_)
  · refine V_aload_n dX4_result_21 rfl ?_
    refine V_geti 4 11 dX4_result_22 (Or.inl lkX4_79) rfl rfl ⟨by omega, by omega⟩ ?_
    by_cases s0 : sort = 0
    · rw [show mi 130 11 = nI 0 from by rw [hso, show sort = 0 by omega]]
      refine V_lookup (off := 27) (tgt := 52) dX4_result_25 (by decide) (by decide) (by decide) ?_
      refine V_aload_n dX4_result_52 rfl ?_
      refine V_geti 4 13 dX4_result_53 (Or.inl lkX4_85) rfl rfl ⟨by omega, by omega⟩ ?_
      refine V_iret dX4_result_56 rfl rfl ?_
      refine ⟨?_, rfl, rfl, rfl⟩
      show some (Value.int (if 10 ≤ x then _ else _)) = _
      rw [if_neg (Int32.not_le.mpr c3), if_pos s0, ← nI_of_toInt hbs.2.2.1]
    by_cases s1 : sort = 1
    · rw [show mi 130 11 = nI 1 from by rw [hso, show sort = 1 by omega]]
      refine V_lookup (off := 32) (tgt := 57) dX4_result_25 (by decide) (by decide) (by decide) ?_
      refine V_aload_n dX4_result_57 rfl ?_
      refine V_geti 4 12 dX4_result_58 (Or.inl lkX4_82) rfl rfl ⟨by omega, by omega⟩ ?_
      refine V_iret dX4_result_61 rfl rfl ?_
      refine ⟨?_, rfl, rfl, rfl⟩
      show some (Value.int (if 10 ≤ x then _ else _)) = _
      rw [if_neg (Int32.not_le.mpr c3), if_neg s0, if_pos s1, ← i_of hbs.2.1]
    rw [show mi 130 11 = nI 2 from by rw [hso, show sort = 2 by omega]]
    refine V_lookup (off := 37) (tgt := 62) dX4_result_25 (by decide) (by decide) (by decide) ?_
    refine V_aload_n dX4_result_62 rfl ?_
    refine V_geti 4 12 dX4_result_63 (Or.inl lkX4_82) rfl rfl ⟨by omega, by omega⟩ ?_
    refine V_ineg dX4_result_66 ?_
    refine V_iret dX4_result_67 rfl rfl ?_
    refine ⟨?_, rfl, rfl, rfl⟩
    show some (Value.int (if 10 ≤ x then _ else _)) = _
    have hlt := (mi 130 12).toInt_lt
    rw [hbs.2.1] at hlt
    rw [if_neg (Int32.not_le.mpr c3), if_neg s0, if_neg s1, ← i_of (i_neg hbs.2.1 (by omega))]
  · have h10 : 10 ≤ x := Int32.not_lt.mp c3
    obtain ⟨k, k1, k2⟩ := ten h10 (hx.resolve_left (fun e => absurd (e ▸ h10) (by decide))).2 (by omega)
    refine V_aload_n dX4_result_6 rfl ?_
    refine V_getr (b := 148) 4 6 dX4_result_7 (Or.inl lkX4_29) rfl rfl ⟨by omega, by omega⟩ (hR _ _ _ rfl) ?_
    refine V_iload_n dX4_result_10 rfl ?_
    refine V_bipush (v := 10) dX4_result_11 rfl ?_
    refine V_isub dX4_result_13 ?_
    refine V_iald (len := 6) k dX4_result_14 rfl ⟨by omega, by omega⟩ k1 (by omega) ?_
    refine V_iconst (v := 1) dX4_result_15 rfl ?_
    refine V_isub dX4_result_16 ?_
    refine V_callSN (qX7_shown _ _ _ hR hn _) dX4_result_17 mnX4_94 mtX7_shown smX7_shown rfl rfl (by decide) (Nat.le_of_ble_eq_true rfl) rfl rfl ?_
    rintro _ _ _ _ ⟨rfl, rfl, rfl, rfl⟩
    refine V_iret dX4_result_20 rfl rfl ?_
    refine ⟨?_, rfl, rfl, rfl⟩
    rw [seat_shown (hbs.2.2.2 k k2)]
    show some (Value.int (if 10 ≤ x then _ else _)) = _
    rw [if_pos h10, nat_of_toInt k1]
set_option maxRecDepth 4000 in
theorem qX4_answer (n : Nat) (mi : MI) (mr : MR) (c : CT) (I : INV n mi mr c) (nc : Nat) (e : Nat → Nat) (b : Nat) (hO : VOK mi (hvOf (mi 174)) nc e) (hMV : MV (mi 174) nc e (mi ((hvOf (mi 174)) + 1)) (mi ((hvOf (mi 174)) + 2)) b) (sort : Nat) (hs3 : sort < 3) (a set x : Int32) (ha : a = nI sort) (hx : x = 0 ∨ (10 ≤ x ∧ x - 10 < nI (cN c))) : Ct KX4_answer 11 0 0 [.ref 130, .int a, .int set, .int x] n mi mr (offQ (some (.int (qAns (qBest (mi 174) c nc e (mi ((hvOf (mi 174)) + 1)) (mi ((hvOf (mi 174)) + 2)) sort set) sort x))) n mi mr scrC) := by
  refine Ct.of2 [some (.ref 130), some (.int a), some (.int set), some (.int x), none, none] (by decide +kernel) (Nat.le_of_ble_eq_true rfl) rfl ?_
  have hI := I
  have hBD := I.2.2.1
  obtain ⟨hR, hn, ⟨⟨hN, hN6⟩, ⟨hW, hW5⟩, -⟩, hrw⟩ := I.facts
  have hab := qAB_ok (sort := sort) hBD hMV
  have hvw := hBD.isV.le2
  have base : ∀ {m : MI}, Off scrC mi m → INV n m mr c ∧ m 174 = mi 174 ∧ (∀ a, a ≤ 56 ∨ (58 ≤ a ∧ a ≤ 99) ∨ 153 ≤ a → m a = mi a) ∧ VOK m (hvOf (mi 174)) nc e := fun {m} ho => by
    have h1 : ∀ a, a ≤ 56 ∨ (58 ≤ a ∧ a ≤ 99) ∨ 153 ≤ a → m a = mi a := fun a ha => ho.fn (fun k => by unfold scrC; omega)
    exact ⟨hI.offC ho, h1 174 (by omega), h1, hO.row (h1 _ (by omega)) (h1 _ (by omega)) (h1 _ (by omega))⟩
  have hwB : sort = 2 → ∀ p k, k ≤ cW c → k ≠ 0 → (qM (mi 174) nc e (mi ((hvOf (mi 174)) + 1)) (mi ((hvOf (mi 174)) + 2)) sort set) p 0 = true → (qM (mi 174) nc e (mi ((hvOf (mi 174)) + 1)) (mi ((hvOf (mi 174)) + 2)) sort set) p k = true → (qB (mi 174) nc e (mi ((hvOf (mi 174)) + 1)) (mi ((hvOf (mi 174)) + 2)) sort) p 0 < (qB (mi 174) nc e (mi ((hvOf (mi 174)) + 1)) (mi ((hvOf (mi 174)) + 2)) sort) p k := fun hs p k _ hk0 h1 h2 => by
    subst hs
    exact may_lt (W := 0) hk0 h1 h2
  have h95 : ∀ (mj : MI) (z4 z5 : Option Value), Off scrC mi mj → mj 130 11 = nI sort → BSq (cN c) mj (qBest (mi 174) c nc e (mi ((hvOf (mi 174)) + 1)) (mi ((hvOf (mi 174)) + 2)) sort set) → V KX4_answer 11 0 0 (offQ (some (.int (qAns (qBest (mi 174) c nc e (mi ((hvOf (mi 174)) + 1)) (mi ((hvOf (mi 174)) + 2)) sort set) sort x))) n mi mr scrC) 95 [some (.ref 130), some (.int a), some (.int set), some (.int x), z4, z5] [] n mj mr := by
    intro mj z4 z5 hoj h11 hbs
    obtain ⟨Ij, e174, hrow, hOj⟩ := base hoj
    refine V_aload_n dX4_answer_95 rfl ?_
    refine V_geti 4 14 dX4_answer_96 (Or.inl lkX4_71) rfl rfl ⟨by omega, by omega⟩ ?_
    refine V_if_eq (tgt := 110) dX4_answer_99 (by decide) (fun c99 => ?_) (fun c99 => ?_)
    · refine V_bipush (v := -6) dX4_answer_110 rfl ?_
      refine V_iret dX4_answer_112 rfl rfl ?_
      first
        | exact ⟨by rw [hbz], rfl, rfl, hoj⟩
        | (refine ⟨?_, rfl, rfl, hoj⟩
           have eb : (qBest (mi 174) c nc e (mi ((hvOf (mi 174)) + 1)) (mi ((hvOf (mi 174)) + 2)) sort set) = none := by
             cases eb : (qBest (mi 174) c nc e (mi ((hvOf (mi 174)) + 1)) (mi ((hvOf (mi 174)) + 2)) sort set) with
             | none => rfl
             | some bz =>
               rw [eb] at hbs
               rw [hbs.1] at c99
               exact absurd c99 (by decide)
           rw [eb]
           rfl)
    · refine V_aload_n dX4_answer_102 rfl ?_
      refine V_iload_n dX4_answer_103 rfl ?_
      obtain ⟨bz, hbz⟩ : ∃ bz, (qBest (mi 174) c nc e (mi ((hvOf (mi 174)) + 1)) (mi ((hvOf (mi 174)) + 2)) sort set) = some bz := by
        cases eb : (qBest (mi 174) c nc e (mi ((hvOf (mi 174)) + 1)) (mi ((hvOf (mi 174)) + 2)) sort set) with
        | some bz => exact ⟨bz, rfl⟩
        | none =>
          rw [eb] at hbs
          exact absurd hbs.1 c99
      have hz9 : -2147483648 < bz.1 := by
        have hin : bz ∈ lvs (qF (mi 174) sort set) (cCost sort (cN c) (qA (mi 174)) (qB (mi 174) nc e (mi ((hvOf (mi 174)) + 1)) (mi ((hvOf (mi 174)) + 2)) sort)) (cW c) (cN c) 0 (qL (mi 174)) qZ 0 := fdB_in hbz
        rw [lvs_cost hin]
        have := (cost_bd (sort := sort) hab hN6 (fun q hq => (lvs_ok hin q (Nat.zero_le _) (by omega)).1)).1
        omega
      refine V_callV (ci := 4) (qX4_result n mj mr hR hn sort (cN c) hN6 hs3 h11 bz (by rw [← hbz]; exact hbs) hz9 x hx) dX4_answer_104 mlX4_75 mtX4_result ivX4_result rfl rfl ⟨by omega, by omega⟩ (by decide) rfl rfl (by decide) (Nat.le_of_ble_eq_true rfl) rfl rfl ?_
      rintro _ _ _ _ ⟨rfl, rfl, rfl, rfl⟩
      refine V_goto (tgt := 112) dX4_answer_107 (by decide) ?_
      refine V_iret dX4_answer_112 rfl rfl ?_
      first
        | exact ⟨by rw [hbz], rfl, rfl, hoj⟩
        | (refine ⟨?_, rfl, rfl, hoj⟩
           have eb : (qBest (mi 174) c nc e (mi ((hvOf (mi 174)) + 1)) (mi ((hvOf (mi 174)) + 2)) sort set) = none := by
             cases eb : (qBest (mi 174) c nc e (mi ((hvOf (mi 174)) + 1)) (mi ((hvOf (mi 174)) + 2)) sort set) with
             | none => rfl
             | some bz =>
               rw [eb] at hbs
               rw [hbs.1] at c99
               exact absurd c99 (by decide)
           rw [eb]
           rfl)
  have loop : ∀ (q : Nat) (mj : MI) (z4 u : Int32), q ≤ cN c → u.toInt = (q : Int) - 1 → Off scrC mi mj → mj 130 11 = nI sort → BSq (cN c) mj none → LFq (cW c) (qL (mi 174)) mj → (∀ j, q ≤ j → j < cN c → mj 145 j = bitsTo ((qM (mi 174) nc e (mi ((hvOf (mi 174)) + 1)) (mi ((hvOf (mi 174)) + 2)) sort set) j) (cW c + 1) ∧ ∀ k, k ≤ cW c → (mj (132 + j) k).toInt = qA (mi 174) j k ∧ (mj (139 + j) k).toInt = (qB (mi 174) nc e (mi ((hvOf (mi 174)) + 1)) (mi ((hvOf (mi 174)) + 2)) sort) j k) → (∀ j, q ≤ j → j ≤ cN c → (mj 149 j).toInt = (ahH (qM (mi 174) nc e (mi ((hvOf (mi 174)) + 1)) (mi ((hvOf (mi 174)) + 2)) sort set) sort (cW c) (cN c - j) j : Int) ∧ (mj 150 j).toInt = ahN (qM (mi 174) nc e (mi ((hvOf (mi 174)) + 1)) (mi ((hvOf (mi 174)) + 2)) sort set) (qB (mi 174) nc e (mi ((hvOf (mi 174)) + 1)) (mi ((hvOf (mi 174)) + 2)) sort) (cW c) (cN c - j) j ∧ (mj 151 j).toInt = ahLo (qM (mi 174) nc e (mi ((hvOf (mi 174)) + 1)) (mi ((hvOf (mi 174)) + 2)) sort set) (qA (mi 174)) (cW c) (cN c - j) j ∧ (mj 152 j).toInt = ahHi (qM (mi 174) nc e (mi ((hvOf (mi 174)) + 1)) (mi ((hvOf (mi 174)) + 2)) sort set) (qA (mi 174)) (cW c) (cN c - j) j) → EQ9 z4 (∃ j, j < cN c ∧ ∀ k, k ≤ cW c → (qM (mi 174) nc e (mi ((hvOf (mi 174)) + 1)) (mi ((hvOf (mi 174)) + 2)) sort set) j k = false) (∀ j, q ≤ j → j < cN c → ∃ k, k ≤ cW c ∧ (qM (mi 174) nc e (mi ((hvOf (mi 174)) + 1)) (mi ((hvOf (mi 174)) + 2)) sort set) j k = true) → V KX4_answer 11 0 0 (offQ (some (.int (qAns (qBest (mi 174) c nc e (mi ((hvOf (mi 174)) + 1)) (mi ((hvOf (mi 174)) + 2)) sort set) sort x))) n mi mr scrC) 19 [some (.ref 130), some (.int a), some (.int set), some (.int x), some (.int z4), some (.int u)] [] n mj mr := by
    intro q
    induction q with
    | zero =>
      intro mj z4 u hq hu hoj h11 hbs hlf hrows hah hz
      obtain ⟨Ij, e174, hrow, hOj⟩ := base hoj
      have hu0 : u < 0 := by
        rw [Int32.lt_iff_toInt_lt, hu]
        decide
      have hWj : nat (mj 40 2) (cW c) := by rw [hrow 40 (by omega), hrw.1.2.2.1]; exact hW
      have hNj : nat (mj 40 1) (cN c) := by rw [hrow 40 (by omega), hrw.1.2.1]; exact hN
      refine V_iload dX4_answer_19 rfl ?_
      refine V_if_lt (tgt := 79) dX4_answer_21 (by decide) (fun c21 => ?_) (fun c21 => absurd hu0 c21)
      refine V_iload dX4_answer_79 rfl ?_
      refine V_if_eq (tgt := 95) dX4_answer_81 (by decide) (fun c81 => ?_) (fun c81 => ?_)
      · first
          | (refine h95 m9 _ _ (hoj.tr (ho9.mono (fun a k q => by unfold offS at q; unfold scrC; omega))) ?_ ?_
             · rw [ho9 130 11 (by unfold offS; omega)]
               exact h11
             · rw [← qBest_M hs3 hN6]
               exact hb9)
          | (refine h95 mj _ _ hoj h11 ?_
             rw [← qBest_M hs3 hN6]
             obtain ⟨j, j1, j2⟩ := hz.l c81
             rw [lvs_none j1 j2]
             exact hbs)
      · refine V_aload_n dX4_answer_84 rfl ?_
        refine V_iconst (v := 0) dX4_answer_85 rfl ?_
        refine V_iconst (v := 0) dX4_answer_86 rfl ?_
        refine V_ldc dX4_answer_87 kX4_65 ?_
        refine V_ldc dX4_answer_89 kX4_66 ?_
        refine V_iconst (v := 0) dX4_answer_91 rfl ?_
        have hne := hz.r c81
        have hSR : SR sort (cN c) (cW c) (qM (mi 174) nc e (mi ((hvOf (mi 174)) + 1)) (mi ((hvOf (mi 174)) + 2)) sort set) (qA (mi 174)) (qB (mi 174) nc e (mi ((hvOf (mi 174)) + 1)) (mi ((hvOf (mi 174)) + 2)) sort) mj := ⟨⟨hNj, hN6⟩, ⟨hWj, hW5⟩, ⟨h11, hs3⟩, fun j hj => hrows j (Nat.zero_le _) hj, fun j hj => hah j (Nat.zero_le _) hj⟩
        refine V_callV (ci := 4) (qX4_sit n mr hR hn sort (cN c) (cW c) (qM (mi 174) nc e (mi ((hvOf (mi 174)) + 1)) (mi ((hvOf (mi 174)) + 2)) sort set) (qA (mi 174)) (qB (mi 174) nc e (mi ((hvOf (mi 174)) + 1)) (mi ((hvOf (mi 174)) + 2)) sort) hab (fun j hj => hne j (Nat.zero_le _) hj) hwB (cN c) 0 mj 0 0 1000000 (-1000000) 0 0 none (qL (mi 174)) qZ (Nat.zero_add _) hSR hlf (fun j hj => absurd hj (Nat.not_lt_zero j)) hbs (by decide) (by decide) (Nat.le_refl _) (by show (1000000 : Int32).toInt = 1000000; decide) (by show (-1000000 : Int32).toInt = -1000000; decide) (by show (0 : Int32).toInt = 0; decide) (fun j hj => absurd hj (Nat.not_lt_zero j))) dX4_answer_92 mlX4_67 mtX4_sit ivX4_sit rfl rfl ⟨by omega, by omega⟩ (by decide) rfl rfl (by omega) (Nat.le_of_ble_eq_true rfl) rfl rfl ?_
        rintro _ _ m9 _ ⟨rfl, rfl, rfl, ho9, hb9⟩
        first
          | (refine h95 m9 _ _ (hoj.tr (ho9.mono (fun a k q => by unfold offS at q; unfold scrC; omega))) ?_ ?_
             · rw [ho9 130 11 (by unfold offS; omega)]
               exact h11
             · rw [← qBest_M hs3 hN6]
               exact hb9)
          | (refine h95 mj _ _ hoj h11 ?_
             rw [← qBest_M hs3 hN6]
             obtain ⟨j, j1, j2⟩ := hz.l c81
             rw [lvs_none j1 j2]
             exact hbs)
    | succ q ih =>
      intro mj z4 u hq hu hoj h11 hbs hlf hrows hah hz
      obtain ⟨Ij, e174, hrow, hOj⟩ := base hoj
      have hu1 : u.toInt = (q : Int) := by omega
      have hun := nI_of_toInt hu1
      have hvj : hvOf (mj 174) = (hvOf (mi 174)) := by rw [e174]
      have hMj : qM (mj 174) nc e (mj (hvOf (mj 174) + 1)) (mj (hvOf (mj 174) + 2)) sort set = (qM (mi 174) nc e (mi ((hvOf (mi 174)) + 1)) (mi ((hvOf (mi 174)) + 2)) sort set) := by rw [hvj, e174, hrow _ (by omega), hrow _ (by omega)]
      have hBj : qB (mj 174) nc e (mj (hvOf (mj 174) + 1)) (mj (hvOf (mj 174) + 2)) sort = (qB (mi 174) nc e (mi ((hvOf (mi 174)) + 1)) (mi ((hvOf (mi 174)) + 2)) sort) := by rw [hvj, e174, hrow _ (by omega), hrow _ (by omega)]
      refine V_iload dX4_answer_19 rfl ?_
      refine V_if_lt (tgt := 79) dX4_answer_21 (by decide) (fun c21 => absurd c21 (Int32.not_lt.mpr (by rw [Int32.le_iff_toInt_le, hu1]; simp only [Int32.reduceToInt]; omega))) (fun c21 => ?_)
      refine V_aload_n dX4_answer_24 rfl ?_
      refine V_iload dX4_answer_25 rfl ?_
      refine V_iload_n dX4_answer_27 rfl ?_
      refine V_iload dX4_answer_28 rfl ?_
      refine V_ishr dX4_answer_30 ?_
      refine V_iconst (v := 1) dX4_answer_31 rfl ?_
      refine V_iand dX4_answer_32 ?_
      refine V_iconst (v := 1) dX4_answer_33 rfl ?_
      refine V_icmp_ne (tgt := 41) dX4_answer_34 (by decide) (fun c34 => ?_) (fun c34 => ?_)
      · refine V_iconst (v := 0) dX4_answer_41 rfl ?_
        refine V_callV (ci := 4) (qX4_layChoices n mj mr c Ij nc e (by rw [hvj]; exact hOj) sort hs3 set h11 (fun k hk => by rw [e174]; exact (hlf k hk).1) _ _ q hu1 (by omega) (by rw [hun] at c34; first | exact (b01_t c34).symm | exact (b01_f c34).symm)) dX4_answer_42 mlX4_58 mtX4_layChoices ivX4_layChoices rfl rfl ⟨by omega, by omega⟩ (by decide) rfl rfl (by decide) (Nat.le_of_ble_eq_true rfl) rfl rfl ?_
        rintro _ _ m1 _ ⟨rfl, rfl, rfl, ho1, hm1, hr1⟩
        rw [hMj] at hm1
        rw [hBj, e174] at hr1
        have o1 : ∀ a k, ¬ (a = 132 + q ∨ a = 139 + q ∨ (a = 145 ∧ k = q) ∨ a = 57) → m1 a k = mj a k := fun a k h => ho1 a k h
        have hs1 := offL_scr (by omega) ho1
        refine V_aload_n dX4_answer_45 rfl ?_
        refine V_iload dX4_answer_46 rfl ?_
        refine V_callV (ci := 4) (qX4_lookAhead n m1 mr hR hn sort (cW c) hs3 (qM (mi 174) nc e (mi ((hvOf (mi 174)) + 1)) (mi ((hvOf (mi 174)) + 2)) sort set) (qA (mi 174)) (qB (mi 174) nc e (mi ((hvOf (mi 174)) + 1)) (mi ((hvOf (mi 174)) + 2)) sort) _ q hu1 (by omega) (by rw [(base (hoj.tr hs1)).2.2.1 40 (by omega), hrw.1.2.2.1]; exact hW) hW5 (by rw [o1 130 11 (by omega)]; exact h11) hm1 hr1 (fun j hj => (hab q j (by omega) hj).2) (ahN (qM (mi 174) nc e (mi ((hvOf (mi 174)) + 1)) (mi ((hvOf (mi 174)) + 2)) sort set) (qB (mi 174) nc e (mi ((hvOf (mi 174)) + 1)) (mi ((hvOf (mi 174)) + 2)) sort) (cW c) (cN c - (q + 1)) (q + 1)) (ahLo (qM (mi 174) nc e (mi ((hvOf (mi 174)) + 1)) (mi ((hvOf (mi 174)) + 2)) sort set) (qA (mi 174)) (cW c) (cN c - (q + 1)) (q + 1)) (ahHi (qM (mi 174) nc e (mi ((hvOf (mi 174)) + 1)) (mi ((hvOf (mi 174)) + 2)) sort set) (qA (mi 174)) (cW c) (cN c - (q + 1)) (q + 1)) (by rw [o1 150 _ (by omega)]; exact (hah (q + 1) (Nat.le_refl _) (by omega)).2.1) (by rw [o1 151 _ (by omega)]; exact (hah (q + 1) (Nat.le_refl _) (by omega)).2.2.1) (by rw [o1 152 _ (by omega)]; exact (hah (q + 1) (Nat.le_refl _) (by omega)).2.2.2) (by have := ahN_bd hab (M := (qM (mi 174) nc e (mi ((hvOf (mi 174)) + 1)) (mi ((hvOf (mi 174)) + 2)) sort set)) (m := cN c - (q + 1)) (p := q + 1) (by omega); omega)) dX4_answer_48 mlX4_62 mtX4_lookAhead ivX4_lookAhead rfl rfl ⟨by omega, by omega⟩ (by decide) rfl rfl (by decide) (Nat.le_of_ble_eq_true rfl) rfl rfl ?_
        rintro _ _ m2 _ ⟨rfl, rfl, rfl, ho2, a1, a2, a3, a4⟩
        have o2 : ∀ a k, ¬ (149 ≤ a ∧ a ≤ 152 ∧ k = q) → m2 a k = m1 a k := fun a k h => ho2 a k h
        have hs2 : Off scrC m1 m2 := ho2.mono (fun a k h => by unfold scrC; omega)
        have hmay : m2 145 q = bitsTo ((qM (mi 174) nc e (mi ((hvOf (mi 174)) + 1)) (mi ((hvOf (mi 174)) + 2)) sort set) q) (cW c + 1) := by rw [o2 145 q (by omega)]; exact hm1
        have hcz := bits_zero (f := (qM (mi 174) nc e (mi ((hvOf (mi 174)) + 1)) (mi ((hvOf (mi 174)) + 2)) sort set) q) (N := cW c + 1) (by omega)
        rw [← hmay] at hcz
        have enext : cN c - q = cN c - (q + 1) + 1 := by omega
        refine V_iload dX4_answer_51 rfl ?_
        refine V_if_eq (tgt := 70) dX4_answer_53 (by decide) (fun c53 => ?_) (fun c53 => ?_)
        · refine V_iconst (v := 0) dX4_answer_70 rfl ?_
          refine V_istore (L' := [_, _, _, _, _, _]) dX4_answer_71 (by decide) rfl rfl ?_
          refine V_iinc (v := _ + (-1)) (L' := [_, _, _, _, _, _]) dX4_answer_73 (by decide) rfl rfl rfl rfl ?_
          refine V_goto (tgt := 19) dX4_answer_76 (by decide) ?_
          refine ih m2 _ _ (by omega) (i_add hu1 (b := -1) (by decide) (by omega)) ((hoj.tr hs1).tr hs2) ?_ ?_ ?_ (fun j j1 j2 => ?_) (fun j j1 j2 => ?_) ?_
          · rw [o2 130 11 (by omega), o1 130 11 (by omega)]
            exact h11
          · exact hbs.eq (fun k hk => by rw [o2 130 k (by omega), o1 130 k (by omega)]) (fun k => by rw [o2 148 k (by omega), o1 148 k (by omega)])
          · intro k hk
            rw [o2 146 k (by omega), o1 146 k (by omega)]
            exact hlf k hk
          · by_cases ej : j = q
            · rw [ej]
              refine ⟨hmay, fun k hk => ?_⟩
              rw [o2 _ k (by omega), o2 _ k (by omega)]
              exact hr1 k hk
            · obtain ⟨r1, r2⟩ := hrows j (by omega) j2
              rw [o2 145 j (by omega), o1 145 j (by omega)]
              refine ⟨r1, fun k hk => ?_⟩
              rw [o2 _ k (by omega), o2 _ k (by omega), o1 _ k (by omega), o1 _ k (by omega)]
              exact r2 k hk
          · by_cases ej : j = q
            · rw [ej, enext]
              refine ⟨?_, a2, a3, a4⟩
              have h0 := (hah (q + 1) (Nat.le_refl _) (by omega)).1
              have hle := ahH_le (M := (qM (mi 174) nc e (mi ((hvOf (mi 174)) + 1)) (mi ((hvOf (mi 174)) + 2)) sort set)) (sort := sort) (W := cW c) (m := cN c - (q + 1)) (p := q + 1)
              rw [← o1 149 (q + 1) (by omega)] at h0
              rw [a1]
              have e1 : ahH (qM (mi 174) nc e (mi ((hvOf (mi 174)) + 1)) (mi ((hvOf (mi 174)) + 2)) sort set) sort (cW c) (cN c - (q + 1) + 1) q = ahH (qM (mi 174) nc e (mi ((hvOf (mi 174)) + 1)) (mi ((hvOf (mi 174)) + 2)) sort set) sort (cW c) (cN c - (q + 1)) (q + 1) + (if mustB (qM (mi 174) nc e (mi ((hvOf (mi 174)) + 1)) (mi ((hvOf (mi 174)) + 2)) sort set) sort (cW c) q = true then 1 else 0) := rfl
              rw [e1]
              by_cases hm : mustB (qM (mi 174) nc e (mi ((hvOf (mi 174)) + 1)) (mi ((hvOf (mi 174)) + 2)) sort set) sort (cW c) q = true
              · rw [if_pos hm, b01_t hm]
                exact ix_add h0 (by decide) (by omega)
              · rw [if_neg hm, b01_f hm]
                exact ix_add h0 (by decide) (by omega)
            · rw [o2 149 j (by omega), o2 150 j (by omega), o2 151 j (by omega), o2 152 j (by omega), o1 149 j (by omega), o1 150 j (by omega), o1 151 j (by omega), o1 152 j (by omega)]
              exact hah j (by omega) j2
          · first
            | exact Or.inl ⟨rfl, hz.l c53⟩
            | exact Or.inl ⟨rfl, q, by omega, fun k hk => cnt_no (hcz.mp c63) k (by omega)⟩
            | (refine Or.inr ⟨rfl, fun j j1 j2 => ?_⟩
               by_cases ej : j = q
               · rw [ej]
                 obtain ⟨k, k1, k2⟩ := cnt_ex (fun h => c63 (hcz.mpr h))
                 exact ⟨k, by omega, k2⟩
               · exact hz.r c53 j (by omega) j2)
        · refine V_aload_n dX4_answer_56 rfl ?_
          refine V_getr (b := 145) 4 3 dX4_answer_57 (Or.inl lkX4_19) rfl rfl ⟨by omega, by omega⟩ (hR _ _ _ rfl) ?_
          refine V_iload dX4_answer_60 rfl ?_
          refine V_iald (len := 6) q dX4_answer_62 rfl ⟨by omega, by omega⟩ hu1 (by omega) ?_
          refine V_if_eq (tgt := 70) dX4_answer_63 (by decide) (fun c63 => ?_) (fun c63 => ?_)
          · refine V_iconst (v := 0) dX4_answer_70 rfl ?_
            refine V_istore (L' := [_, _, _, _, _, _]) dX4_answer_71 (by decide) rfl rfl ?_
            refine V_iinc (v := _ + (-1)) (L' := [_, _, _, _, _, _]) dX4_answer_73 (by decide) rfl rfl rfl rfl ?_
            refine V_goto (tgt := 19) dX4_answer_76 (by decide) ?_
            refine ih m2 _ _ (by omega) (i_add hu1 (b := -1) (by decide) (by omega)) ((hoj.tr hs1).tr hs2) ?_ ?_ ?_ (fun j j1 j2 => ?_) (fun j j1 j2 => ?_) ?_
            · rw [o2 130 11 (by omega), o1 130 11 (by omega)]
              exact h11
            · exact hbs.eq (fun k hk => by rw [o2 130 k (by omega), o1 130 k (by omega)]) (fun k => by rw [o2 148 k (by omega), o1 148 k (by omega)])
            · intro k hk
              rw [o2 146 k (by omega), o1 146 k (by omega)]
              exact hlf k hk
            · by_cases ej : j = q
              · rw [ej]
                refine ⟨hmay, fun k hk => ?_⟩
                rw [o2 _ k (by omega), o2 _ k (by omega)]
                exact hr1 k hk
              · obtain ⟨r1, r2⟩ := hrows j (by omega) j2
                rw [o2 145 j (by omega), o1 145 j (by omega)]
                refine ⟨r1, fun k hk => ?_⟩
                rw [o2 _ k (by omega), o2 _ k (by omega), o1 _ k (by omega), o1 _ k (by omega)]
                exact r2 k hk
            · by_cases ej : j = q
              · rw [ej, enext]
                refine ⟨?_, a2, a3, a4⟩
                have h0 := (hah (q + 1) (Nat.le_refl _) (by omega)).1
                have hle := ahH_le (M := (qM (mi 174) nc e (mi ((hvOf (mi 174)) + 1)) (mi ((hvOf (mi 174)) + 2)) sort set)) (sort := sort) (W := cW c) (m := cN c - (q + 1)) (p := q + 1)
                rw [← o1 149 (q + 1) (by omega)] at h0
                rw [a1]
                have e1 : ahH (qM (mi 174) nc e (mi ((hvOf (mi 174)) + 1)) (mi ((hvOf (mi 174)) + 2)) sort set) sort (cW c) (cN c - (q + 1) + 1) q = ahH (qM (mi 174) nc e (mi ((hvOf (mi 174)) + 1)) (mi ((hvOf (mi 174)) + 2)) sort set) sort (cW c) (cN c - (q + 1)) (q + 1) + (if mustB (qM (mi 174) nc e (mi ((hvOf (mi 174)) + 1)) (mi ((hvOf (mi 174)) + 2)) sort set) sort (cW c) q = true then 1 else 0) := rfl
                rw [e1]
                by_cases hm : mustB (qM (mi 174) nc e (mi ((hvOf (mi 174)) + 1)) (mi ((hvOf (mi 174)) + 2)) sort set) sort (cW c) q = true
                · rw [if_pos hm, b01_t hm]
                  exact ix_add h0 (by decide) (by omega)
                · rw [if_neg hm, b01_f hm]
                  exact ix_add h0 (by decide) (by omega)
              · rw [o2 149 j (by omega), o2 150 j (by omega), o2 151 j (by omega), o2 152 j (by omega), o1 149 j (by omega), o1 150 j (by omega), o1 151 j (by omega), o1 152 j (by omega)]
                exact hah j (by omega) j2
            · first
              | exact Or.inl ⟨rfl, hz.l c53⟩
              | exact Or.inl ⟨rfl, q, by omega, fun k hk => cnt_no (hcz.mp c63) k (by omega)⟩
              | (refine Or.inr ⟨rfl, fun j j1 j2 => ?_⟩
                 by_cases ej : j = q
                 · rw [ej]
                   obtain ⟨k, k1, k2⟩ := cnt_ex (fun h => c63 (hcz.mpr h))
                   exact ⟨k, by omega, k2⟩
                 · exact hz.r c53 j (by omega) j2)
          · refine V_iconst (v := 1) dX4_answer_66 rfl ?_
            refine V_goto (tgt := 71) dX4_answer_67 (by decide) ?_
            refine V_istore (L' := [_, _, _, _, _, _]) dX4_answer_71 (by decide) rfl rfl ?_
            refine V_iinc (v := _ + (-1)) (L' := [_, _, _, _, _, _]) dX4_answer_73 (by decide) rfl rfl rfl rfl ?_
            refine V_goto (tgt := 19) dX4_answer_76 (by decide) ?_
            refine ih m2 _ _ (by omega) (i_add hu1 (b := -1) (by decide) (by omega)) ((hoj.tr hs1).tr hs2) ?_ ?_ ?_ (fun j j1 j2 => ?_) (fun j j1 j2 => ?_) ?_
            · rw [o2 130 11 (by omega), o1 130 11 (by omega)]
              exact h11
            · exact hbs.eq (fun k hk => by rw [o2 130 k (by omega), o1 130 k (by omega)]) (fun k => by rw [o2 148 k (by omega), o1 148 k (by omega)])
            · intro k hk
              rw [o2 146 k (by omega), o1 146 k (by omega)]
              exact hlf k hk
            · by_cases ej : j = q
              · rw [ej]
                refine ⟨hmay, fun k hk => ?_⟩
                rw [o2 _ k (by omega), o2 _ k (by omega)]
                exact hr1 k hk
              · obtain ⟨r1, r2⟩ := hrows j (by omega) j2
                rw [o2 145 j (by omega), o1 145 j (by omega)]
                refine ⟨r1, fun k hk => ?_⟩
                rw [o2 _ k (by omega), o2 _ k (by omega), o1 _ k (by omega), o1 _ k (by omega)]
                exact r2 k hk
            · by_cases ej : j = q
              · rw [ej, enext]
                refine ⟨?_, a2, a3, a4⟩
                have h0 := (hah (q + 1) (Nat.le_refl _) (by omega)).1
                have hle := ahH_le (M := (qM (mi 174) nc e (mi ((hvOf (mi 174)) + 1)) (mi ((hvOf (mi 174)) + 2)) sort set)) (sort := sort) (W := cW c) (m := cN c - (q + 1)) (p := q + 1)
                rw [← o1 149 (q + 1) (by omega)] at h0
                rw [a1]
                have e1 : ahH (qM (mi 174) nc e (mi ((hvOf (mi 174)) + 1)) (mi ((hvOf (mi 174)) + 2)) sort set) sort (cW c) (cN c - (q + 1) + 1) q = ahH (qM (mi 174) nc e (mi ((hvOf (mi 174)) + 1)) (mi ((hvOf (mi 174)) + 2)) sort set) sort (cW c) (cN c - (q + 1)) (q + 1) + (if mustB (qM (mi 174) nc e (mi ((hvOf (mi 174)) + 1)) (mi ((hvOf (mi 174)) + 2)) sort set) sort (cW c) q = true then 1 else 0) := rfl
                rw [e1]
                by_cases hm : mustB (qM (mi 174) nc e (mi ((hvOf (mi 174)) + 1)) (mi ((hvOf (mi 174)) + 2)) sort set) sort (cW c) q = true
                · rw [if_pos hm, b01_t hm]
                  exact ix_add h0 (by decide) (by omega)
                · rw [if_neg hm, b01_f hm]
                  exact ix_add h0 (by decide) (by omega)
              · rw [o2 149 j (by omega), o2 150 j (by omega), o2 151 j (by omega), o2 152 j (by omega), o1 149 j (by omega), o1 150 j (by omega), o1 151 j (by omega), o1 152 j (by omega)]
                exact hah j (by omega) j2
            · first
              | exact Or.inl ⟨rfl, hz.l c53⟩
              | exact Or.inl ⟨rfl, q, by omega, fun k hk => cnt_no (hcz.mp c63) k (by omega)⟩
              | (refine Or.inr ⟨rfl, fun j j1 j2 => ?_⟩
                 by_cases ej : j = q
                 · rw [ej]
                   obtain ⟨k, k1, k2⟩ := cnt_ex (fun h => c63 (hcz.mpr h))
                   exact ⟨k, by omega, k2⟩
                 · exact hz.r c53 j (by omega) j2)
      · refine V_iconst (v := 1) dX4_answer_37 rfl ?_
        refine V_goto (tgt := 42) dX4_answer_38 (by decide) ?_
        refine V_callV (ci := 4) (qX4_layChoices n mj mr c Ij nc e (by rw [hvj]; exact hOj) sort hs3 set h11 (fun k hk => by rw [e174]; exact (hlf k hk).1) _ _ q hu1 (by omega) (by rw [hun] at c34; first | exact (b01_t c34).symm | exact (b01_f c34).symm)) dX4_answer_42 mlX4_58 mtX4_layChoices ivX4_layChoices rfl rfl ⟨by omega, by omega⟩ (by decide) rfl rfl (by decide) (Nat.le_of_ble_eq_true rfl) rfl rfl ?_
        rintro _ _ m1 _ ⟨rfl, rfl, rfl, ho1, hm1, hr1⟩
        rw [hMj] at hm1
        rw [hBj, e174] at hr1
        have o1 : ∀ a k, ¬ (a = 132 + q ∨ a = 139 + q ∨ (a = 145 ∧ k = q) ∨ a = 57) → m1 a k = mj a k := fun a k h => ho1 a k h
        have hs1 := offL_scr (by omega) ho1
        refine V_aload_n dX4_answer_45 rfl ?_
        refine V_iload dX4_answer_46 rfl ?_
        refine V_callV (ci := 4) (qX4_lookAhead n m1 mr hR hn sort (cW c) hs3 (qM (mi 174) nc e (mi ((hvOf (mi 174)) + 1)) (mi ((hvOf (mi 174)) + 2)) sort set) (qA (mi 174)) (qB (mi 174) nc e (mi ((hvOf (mi 174)) + 1)) (mi ((hvOf (mi 174)) + 2)) sort) _ q hu1 (by omega) (by rw [(base (hoj.tr hs1)).2.2.1 40 (by omega), hrw.1.2.2.1]; exact hW) hW5 (by rw [o1 130 11 (by omega)]; exact h11) hm1 hr1 (fun j hj => (hab q j (by omega) hj).2) (ahN (qM (mi 174) nc e (mi ((hvOf (mi 174)) + 1)) (mi ((hvOf (mi 174)) + 2)) sort set) (qB (mi 174) nc e (mi ((hvOf (mi 174)) + 1)) (mi ((hvOf (mi 174)) + 2)) sort) (cW c) (cN c - (q + 1)) (q + 1)) (ahLo (qM (mi 174) nc e (mi ((hvOf (mi 174)) + 1)) (mi ((hvOf (mi 174)) + 2)) sort set) (qA (mi 174)) (cW c) (cN c - (q + 1)) (q + 1)) (ahHi (qM (mi 174) nc e (mi ((hvOf (mi 174)) + 1)) (mi ((hvOf (mi 174)) + 2)) sort set) (qA (mi 174)) (cW c) (cN c - (q + 1)) (q + 1)) (by rw [o1 150 _ (by omega)]; exact (hah (q + 1) (Nat.le_refl _) (by omega)).2.1) (by rw [o1 151 _ (by omega)]; exact (hah (q + 1) (Nat.le_refl _) (by omega)).2.2.1) (by rw [o1 152 _ (by omega)]; exact (hah (q + 1) (Nat.le_refl _) (by omega)).2.2.2) (by have := ahN_bd hab (M := (qM (mi 174) nc e (mi ((hvOf (mi 174)) + 1)) (mi ((hvOf (mi 174)) + 2)) sort set)) (m := cN c - (q + 1)) (p := q + 1) (by omega); omega)) dX4_answer_48 mlX4_62 mtX4_lookAhead ivX4_lookAhead rfl rfl ⟨by omega, by omega⟩ (by decide) rfl rfl (by decide) (Nat.le_of_ble_eq_true rfl) rfl rfl ?_
        rintro _ _ m2 _ ⟨rfl, rfl, rfl, ho2, a1, a2, a3, a4⟩
        have o2 : ∀ a k, ¬ (149 ≤ a ∧ a ≤ 152 ∧ k = q) → m2 a k = m1 a k := fun a k h => ho2 a k h
        have hs2 : Off scrC m1 m2 := ho2.mono (fun a k h => by unfold scrC; omega)
        have hmay : m2 145 q = bitsTo ((qM (mi 174) nc e (mi ((hvOf (mi 174)) + 1)) (mi ((hvOf (mi 174)) + 2)) sort set) q) (cW c + 1) := by rw [o2 145 q (by omega)]; exact hm1
        have hcz := bits_zero (f := (qM (mi 174) nc e (mi ((hvOf (mi 174)) + 1)) (mi ((hvOf (mi 174)) + 2)) sort set) q) (N := cW c + 1) (by omega)
        rw [← hmay] at hcz
        have enext : cN c - q = cN c - (q + 1) + 1 := by omega
        refine V_iload dX4_answer_51 rfl ?_
        refine V_if_eq (tgt := 70) dX4_answer_53 (by decide) (fun c53 => ?_) (fun c53 => ?_)
        · refine V_iconst (v := 0) dX4_answer_70 rfl ?_
          refine V_istore (L' := [_, _, _, _, _, _]) dX4_answer_71 (by decide) rfl rfl ?_
          refine V_iinc (v := _ + (-1)) (L' := [_, _, _, _, _, _]) dX4_answer_73 (by decide) rfl rfl rfl rfl ?_
          refine V_goto (tgt := 19) dX4_answer_76 (by decide) ?_
          refine ih m2 _ _ (by omega) (i_add hu1 (b := -1) (by decide) (by omega)) ((hoj.tr hs1).tr hs2) ?_ ?_ ?_ (fun j j1 j2 => ?_) (fun j j1 j2 => ?_) ?_
          · rw [o2 130 11 (by omega), o1 130 11 (by omega)]
            exact h11
          · exact hbs.eq (fun k hk => by rw [o2 130 k (by omega), o1 130 k (by omega)]) (fun k => by rw [o2 148 k (by omega), o1 148 k (by omega)])
          · intro k hk
            rw [o2 146 k (by omega), o1 146 k (by omega)]
            exact hlf k hk
          · by_cases ej : j = q
            · rw [ej]
              refine ⟨hmay, fun k hk => ?_⟩
              rw [o2 _ k (by omega), o2 _ k (by omega)]
              exact hr1 k hk
            · obtain ⟨r1, r2⟩ := hrows j (by omega) j2
              rw [o2 145 j (by omega), o1 145 j (by omega)]
              refine ⟨r1, fun k hk => ?_⟩
              rw [o2 _ k (by omega), o2 _ k (by omega), o1 _ k (by omega), o1 _ k (by omega)]
              exact r2 k hk
          · by_cases ej : j = q
            · rw [ej, enext]
              refine ⟨?_, a2, a3, a4⟩
              have h0 := (hah (q + 1) (Nat.le_refl _) (by omega)).1
              have hle := ahH_le (M := (qM (mi 174) nc e (mi ((hvOf (mi 174)) + 1)) (mi ((hvOf (mi 174)) + 2)) sort set)) (sort := sort) (W := cW c) (m := cN c - (q + 1)) (p := q + 1)
              rw [← o1 149 (q + 1) (by omega)] at h0
              rw [a1]
              have e1 : ahH (qM (mi 174) nc e (mi ((hvOf (mi 174)) + 1)) (mi ((hvOf (mi 174)) + 2)) sort set) sort (cW c) (cN c - (q + 1) + 1) q = ahH (qM (mi 174) nc e (mi ((hvOf (mi 174)) + 1)) (mi ((hvOf (mi 174)) + 2)) sort set) sort (cW c) (cN c - (q + 1)) (q + 1) + (if mustB (qM (mi 174) nc e (mi ((hvOf (mi 174)) + 1)) (mi ((hvOf (mi 174)) + 2)) sort set) sort (cW c) q = true then 1 else 0) := rfl
              rw [e1]
              by_cases hm : mustB (qM (mi 174) nc e (mi ((hvOf (mi 174)) + 1)) (mi ((hvOf (mi 174)) + 2)) sort set) sort (cW c) q = true
              · rw [if_pos hm, b01_t hm]
                exact ix_add h0 (by decide) (by omega)
              · rw [if_neg hm, b01_f hm]
                exact ix_add h0 (by decide) (by omega)
            · rw [o2 149 j (by omega), o2 150 j (by omega), o2 151 j (by omega), o2 152 j (by omega), o1 149 j (by omega), o1 150 j (by omega), o1 151 j (by omega), o1 152 j (by omega)]
              exact hah j (by omega) j2
          · first
            | exact Or.inl ⟨rfl, hz.l c53⟩
            | exact Or.inl ⟨rfl, q, by omega, fun k hk => cnt_no (hcz.mp c63) k (by omega)⟩
            | (refine Or.inr ⟨rfl, fun j j1 j2 => ?_⟩
               by_cases ej : j = q
               · rw [ej]
                 obtain ⟨k, k1, k2⟩ := cnt_ex (fun h => c63 (hcz.mpr h))
                 exact ⟨k, by omega, k2⟩
               · exact hz.r c53 j (by omega) j2)
        · refine V_aload_n dX4_answer_56 rfl ?_
          refine V_getr (b := 145) 4 3 dX4_answer_57 (Or.inl lkX4_19) rfl rfl ⟨by omega, by omega⟩ (hR _ _ _ rfl) ?_
          refine V_iload dX4_answer_60 rfl ?_
          refine V_iald (len := 6) q dX4_answer_62 rfl ⟨by omega, by omega⟩ hu1 (by omega) ?_
          refine V_if_eq (tgt := 70) dX4_answer_63 (by decide) (fun c63 => ?_) (fun c63 => ?_)
          · refine V_iconst (v := 0) dX4_answer_70 rfl ?_
            refine V_istore (L' := [_, _, _, _, _, _]) dX4_answer_71 (by decide) rfl rfl ?_
            refine V_iinc (v := _ + (-1)) (L' := [_, _, _, _, _, _]) dX4_answer_73 (by decide) rfl rfl rfl rfl ?_
            refine V_goto (tgt := 19) dX4_answer_76 (by decide) ?_
            refine ih m2 _ _ (by omega) (i_add hu1 (b := -1) (by decide) (by omega)) ((hoj.tr hs1).tr hs2) ?_ ?_ ?_ (fun j j1 j2 => ?_) (fun j j1 j2 => ?_) ?_
            · rw [o2 130 11 (by omega), o1 130 11 (by omega)]
              exact h11
            · exact hbs.eq (fun k hk => by rw [o2 130 k (by omega), o1 130 k (by omega)]) (fun k => by rw [o2 148 k (by omega), o1 148 k (by omega)])
            · intro k hk
              rw [o2 146 k (by omega), o1 146 k (by omega)]
              exact hlf k hk
            · by_cases ej : j = q
              · rw [ej]
                refine ⟨hmay, fun k hk => ?_⟩
                rw [o2 _ k (by omega), o2 _ k (by omega)]
                exact hr1 k hk
              · obtain ⟨r1, r2⟩ := hrows j (by omega) j2
                rw [o2 145 j (by omega), o1 145 j (by omega)]
                refine ⟨r1, fun k hk => ?_⟩
                rw [o2 _ k (by omega), o2 _ k (by omega), o1 _ k (by omega), o1 _ k (by omega)]
                exact r2 k hk
            · by_cases ej : j = q
              · rw [ej, enext]
                refine ⟨?_, a2, a3, a4⟩
                have h0 := (hah (q + 1) (Nat.le_refl _) (by omega)).1
                have hle := ahH_le (M := (qM (mi 174) nc e (mi ((hvOf (mi 174)) + 1)) (mi ((hvOf (mi 174)) + 2)) sort set)) (sort := sort) (W := cW c) (m := cN c - (q + 1)) (p := q + 1)
                rw [← o1 149 (q + 1) (by omega)] at h0
                rw [a1]
                have e1 : ahH (qM (mi 174) nc e (mi ((hvOf (mi 174)) + 1)) (mi ((hvOf (mi 174)) + 2)) sort set) sort (cW c) (cN c - (q + 1) + 1) q = ahH (qM (mi 174) nc e (mi ((hvOf (mi 174)) + 1)) (mi ((hvOf (mi 174)) + 2)) sort set) sort (cW c) (cN c - (q + 1)) (q + 1) + (if mustB (qM (mi 174) nc e (mi ((hvOf (mi 174)) + 1)) (mi ((hvOf (mi 174)) + 2)) sort set) sort (cW c) q = true then 1 else 0) := rfl
                rw [e1]
                by_cases hm : mustB (qM (mi 174) nc e (mi ((hvOf (mi 174)) + 1)) (mi ((hvOf (mi 174)) + 2)) sort set) sort (cW c) q = true
                · rw [if_pos hm, b01_t hm]
                  exact ix_add h0 (by decide) (by omega)
                · rw [if_neg hm, b01_f hm]
                  exact ix_add h0 (by decide) (by omega)
              · rw [o2 149 j (by omega), o2 150 j (by omega), o2 151 j (by omega), o2 152 j (by omega), o1 149 j (by omega), o1 150 j (by omega), o1 151 j (by omega), o1 152 j (by omega)]
                exact hah j (by omega) j2
            · first
              | exact Or.inl ⟨rfl, hz.l c53⟩
              | exact Or.inl ⟨rfl, q, by omega, fun k hk => cnt_no (hcz.mp c63) k (by omega)⟩
              | (refine Or.inr ⟨rfl, fun j j1 j2 => ?_⟩
                 by_cases ej : j = q
                 · rw [ej]
                   obtain ⟨k, k1, k2⟩ := cnt_ex (fun h => c63 (hcz.mpr h))
                   exact ⟨k, by omega, k2⟩
                 · exact hz.r c53 j (by omega) j2)
          · refine V_iconst (v := 1) dX4_answer_66 rfl ?_
            refine V_goto (tgt := 71) dX4_answer_67 (by decide) ?_
            refine V_istore (L' := [_, _, _, _, _, _]) dX4_answer_71 (by decide) rfl rfl ?_
            refine V_iinc (v := _ + (-1)) (L' := [_, _, _, _, _, _]) dX4_answer_73 (by decide) rfl rfl rfl rfl ?_
            refine V_goto (tgt := 19) dX4_answer_76 (by decide) ?_
            refine ih m2 _ _ (by omega) (i_add hu1 (b := -1) (by decide) (by omega)) ((hoj.tr hs1).tr hs2) ?_ ?_ ?_ (fun j j1 j2 => ?_) (fun j j1 j2 => ?_) ?_
            · rw [o2 130 11 (by omega), o1 130 11 (by omega)]
              exact h11
            · exact hbs.eq (fun k hk => by rw [o2 130 k (by omega), o1 130 k (by omega)]) (fun k => by rw [o2 148 k (by omega), o1 148 k (by omega)])
            · intro k hk
              rw [o2 146 k (by omega), o1 146 k (by omega)]
              exact hlf k hk
            · by_cases ej : j = q
              · rw [ej]
                refine ⟨hmay, fun k hk => ?_⟩
                rw [o2 _ k (by omega), o2 _ k (by omega)]
                exact hr1 k hk
              · obtain ⟨r1, r2⟩ := hrows j (by omega) j2
                rw [o2 145 j (by omega), o1 145 j (by omega)]
                refine ⟨r1, fun k hk => ?_⟩
                rw [o2 _ k (by omega), o2 _ k (by omega), o1 _ k (by omega), o1 _ k (by omega)]
                exact r2 k hk
            · by_cases ej : j = q
              · rw [ej, enext]
                refine ⟨?_, a2, a3, a4⟩
                have h0 := (hah (q + 1) (Nat.le_refl _) (by omega)).1
                have hle := ahH_le (M := (qM (mi 174) nc e (mi ((hvOf (mi 174)) + 1)) (mi ((hvOf (mi 174)) + 2)) sort set)) (sort := sort) (W := cW c) (m := cN c - (q + 1)) (p := q + 1)
                rw [← o1 149 (q + 1) (by omega)] at h0
                rw [a1]
                have e1 : ahH (qM (mi 174) nc e (mi ((hvOf (mi 174)) + 1)) (mi ((hvOf (mi 174)) + 2)) sort set) sort (cW c) (cN c - (q + 1) + 1) q = ahH (qM (mi 174) nc e (mi ((hvOf (mi 174)) + 1)) (mi ((hvOf (mi 174)) + 2)) sort set) sort (cW c) (cN c - (q + 1)) (q + 1) + (if mustB (qM (mi 174) nc e (mi ((hvOf (mi 174)) + 1)) (mi ((hvOf (mi 174)) + 2)) sort set) sort (cW c) q = true then 1 else 0) := rfl
                rw [e1]
                by_cases hm : mustB (qM (mi 174) nc e (mi ((hvOf (mi 174)) + 1)) (mi ((hvOf (mi 174)) + 2)) sort set) sort (cW c) q = true
                · rw [if_pos hm, b01_t hm]
                  exact ix_add h0 (by decide) (by omega)
                · rw [if_neg hm, b01_f hm]
                  exact ix_add h0 (by decide) (by omega)
              · rw [o2 149 j (by omega), o2 150 j (by omega), o2 151 j (by omega), o2 152 j (by omega), o1 149 j (by omega), o1 150 j (by omega), o1 151 j (by omega), o1 152 j (by omega)]
                exact hah j (by omega) j2
            · first
              | exact Or.inl ⟨rfl, hz.l c53⟩
              | exact Or.inl ⟨rfl, q, by omega, fun k hk => cnt_no (hcz.mp c63) k (by omega)⟩
              | (refine Or.inr ⟨rfl, fun j j1 j2 => ?_⟩
                 by_cases ej : j = q
                 · rw [ej]
                   obtain ⟨k, k1, k2⟩ := cnt_ex (fun h => c63 (hcz.mpr h))
                   exact ⟨k, by omega, k2⟩
                 · exact hz.r c53 j (by omega) j2)
  refine V_aload_n dX4_answer_0 rfl ?_
  refine V_iload_n dX4_answer_1 rfl ?_
  refine V_callV (ci := 4) (qX4_begin n mi mr c I a) dX4_answer_2 mlX4_48 mtX4_begin ivX4_begin rfl rfl ⟨by omega, by omega⟩ (by decide) rfl rfl (by decide) (Nat.le_of_ble_eq_true rfl) rfl rfl ?_
  rintro _ _ m0 _ ⟨rfl, rfl, rfl, ho0, z11, zbs, zlf, z1, z2, z3, z4⟩
  have hs0 : Off scrC mi m0 := ho0.mono (fun a k q => by unfold offG at q; unfold scrC; omega)
  have hN0 : nat (m0 40 1) (cN c) := by rw [(base hs0).2.2.1 40 (by omega), hrw.1.2.1]; exact hN
  have hlf9 : ∀ k, k ≤ cW c → qL (mi 174) k ≤ 100 := fun k hk => by
    cases k with
    | zero => show 6 ≤ 100; decide
    | succ k =>
      obtain ⟨v, v1, v2⟩ := (hBD.2.2.2.2.1 k (by omega)).2
      show (mi 174 (7 + k)).toNatClampNeg ≤ 100
      rw [nat_of_toInt v1]
      omega
  refine V_iconst (v := 1) dX4_answer_5 rfl ?_
  refine V_istore (L' := [_, _, _, _, _, _]) dX4_answer_6 (by decide) rfl rfl ?_
  refine V_aload_n dX4_answer_8 rfl ?_
  refine V_getr (b := 40) 4 0 dX4_answer_9 (Or.inl lkX4_44) rfl rfl ⟨by omega, by omega⟩ (hR _ _ _ rfl) ?_
  refine V_geti 6 1 dX4_answer_12 lnX4_52 rfl rfl ⟨by omega, by omega⟩ ?_
  refine V_iconst (v := 1) dX4_answer_15 rfl ?_
  refine V_isub dX4_answer_16 ?_
  refine V_istore (L' := [_, _, _, _, _, _]) dX4_answer_17 (by decide) rfl rfl ?_
  refine loop (cN c) m0 _ _ (Nat.le_refl _) (subOne hN0 (by omega)) hs0 (z11.trans ha) zbs (fun k hk => ⟨zlf k hk, hlf9 k hk⟩) (fun j j1 j2 => absurd j1 (by omega)) (fun j j1 j2 => ?_) (Or.inr ⟨rfl, fun j j1 j2 => absurd j1 (by omega)⟩)
  have ej : j = cN c := by omega
  rw [ej, Nat.sub_self, z1, z2, z3, z4]
  exact ⟨by show (0 : Int32).toInt = ((0 : Nat) : Int); decide, by show (0 : Int32).toInt = 0; decide, by show (1000000 : Int32).toInt = 1000000; decide, by show (-1000000 : Int32).toInt = -1000000; decide⟩
/-- what may be asked of a seating -/
def okAsk (S : Nat → Int32) (x : Int32) : Prop := x = 0 ∨ (10 ≤ x ∧ x - 10 < S 12)
theorem ask_ok {S : Nat → Int32} {c : CT} (h : okCT S c) {x : Int32} (hx : okAsk S x) : x = 0 ∨ (10 ≤ x ∧ x - 10 < nI (cN c)) := by
  rw [← nI_of_toInt h.1.1]
  exact hx
theorem ask_c {S : Nat → Int32} {x y : Int32} (h : y = S 12) : (x = 0 ∨ (10 ≤ x ∧ 0 ≤ x - 10 ∧ x - 10 < y)) ↔ okAsk S x := by
  rw [h]
  unfold okAsk
  refine or_congr Iff.rfl ⟨fun q => ⟨q.1, q.2.2⟩, fun q => ⟨q.1, ?_, q.2⟩⟩
  have hw := x.toInt_lt
  have h1 := q.1
  rw [Int32.le_iff_toInt_le] at h1 ⊢
  simp only [Int32.reduceToInt] at h1 ⊢
  rw [i_sub rfl (b := 10) (by decide) (by omega)]
  omega
noncomputable def sClose (S : Nat → Int32) (c : CT) (nc : Nat) (e : Nat → Nat) (s nv : Nat → Int32) (x : Int32) : Int32 := if x = 0 ∨ (10 ≤ x ∧ x - 10 < S 12) then qAns (qBest S c nc e s nv 1 0) 1 x else -1
noncomputable def sBold (S : Nat → Int32) (c : CT) (nc : Nat) (e : Nat → Nat) (s nv : Nat → Int32) (x : Int32) : Int32 := if x = 0 ∨ (10 ≤ x ∧ x - 10 < S 12) then qAns (qBest S c nc e s nv 2 0) 2 x else -1
noncomputable def sFewest (S : Nat → Int32) (c : CT) (nc : Nat) (e : Nat → Nat) (s nv : Nat → Int32) (set x : Int32) : Int32 := if x = 0 ∨ (10 ≤ x ∧ x - 10 < S 12) then (if 0 ≤ set ∧ set < 1 <<< (S 12 &&& 31) then qAns (qBest S c nc e s nv 0 set) 0 x else -2) else -1
set_option maxRecDepth 4000 in
theorem qX7_close (n : Nat) (mi : MI) (mr : MR) (c : CT) (I : INV n mi mr c) (nc : Nat) (e : Nat → Nat) (b : Nat) (hO : VOK mi (hvOf (mi 174)) nc e) (hMV : MV (mi 174) nc e (mi (hvOf (mi 174) + 1)) (mi (hvOf (mi 174) + 2)) b) (x : Int32) : Ct KX7_close 12 0 0 [.ref 32, .int x] n mi mr (offQ (some (.int (sClose (mi 174) c nc e (mi (hvOf (mi 174) + 1)) (mi (hvOf (mi 174) + 2)) x))) n mi mr scrC) := by
  refine Ct.of2 [some (.ref 32), some (.int x)] (by decide +kernel) (Nat.le_of_ble_eq_true rfl) rfl ?_
  obtain ⟨hR, hn, ⟨⟨hN, hN6⟩, ⟨hW, hW5⟩, ⟨hL, hL5⟩, ⟨hT, hT100⟩, ⟨hS, hS5⟩, ⟨hP, hP8⟩, ⟨hBk, hB8⟩⟩, hrw⟩ := I.facts
  have hBD := I.2.2.1
  obtain ⟨⟨r1, r2, r3, r4, r5⟩, hper, hvin, htape, hseen, hnight, hbook⟩ := id hrw
  have hcN : nat (mi 40 1) (cN c) := by rw [r2]; exact hN
  have hcW : nat (mi 40 2) (cW c) := by rw [r3]; exact hW
  have hI := I
  clear I
  refine V_aload_n dX7_close_0 rfl ?_
  refine V_iload_n dX7_close_1 rfl ?_
  refine V_callV (ci := 7) (qX7_isOfSeating _ _ _ hR hn _) dX7_close_2 mlX7_191 mtX7_isOfSeating ivX7_isOfSeating rfl rfl ⟨by omega, by omega⟩ (by decide) rfl rfl (by decide) (Nat.le_of_ble_eq_true rfl) rfl rfl ?_
  rintro _ _ _ _ ⟨rfl, rfl, rfl, rfl⟩
  refine V_if_eq (tgt := 21) dX7_close_5 (by decide) (fun c0 => ?_) (fun c0 => ?_)
  · refine V_iconst (v := -1) dX7_close_21 rfl ?_
    refine V_iret dX7_close_22 rfl rfl ?_
    first
      | (refine ⟨?_, rfl, rfl, ho9⟩
         unfold sClose
         rw [if_pos (show x = 0 ∨ (10 ≤ x ∧ x - 10 < mi 174 12) from (ask_c r2).mp c0)])
      | (refine ⟨?_, rfl, rfl, Off.rf⟩
         unfold sClose
         rw [if_neg (show ¬ (x = 0 ∨ (10 ≤ x ∧ x - 10 < mi 174 12)) from fun h => b01_0.mp c0 ((ask_c r2).mpr h))])
  · have c0 := b01_n.mp c0
    refine V_aload_n dX7_close_8 rfl ?_
    refine V_getr (b := 130) 7 4 dX7_close_9 (Or.inl lkX7_45) rfl rfl ⟨by omega, by omega⟩ (hR _ _ _ rfl) ?_
    refine V_iconst (v := 1) dX7_close_12 rfl ?_
    refine V_iconst (v := 0) dX7_close_13 rfl ?_
    refine V_iload_n dX7_close_14 rfl ?_
    refine V_callV (ci := 4) (qX4_answer n mi mr c hI nc e b hO hMV 1 (by decide) _ 0 x rfl (ask_ok hBD.1 ((ask_c r2).mp c0))) dX7_close_15 mlX7_194 mtX4_answer ivX4_answer rfl rfl ⟨by omega, by omega⟩ (by decide) rfl rfl (by decide) (Nat.le_of_ble_eq_true rfl) rfl rfl ?_
    rintro _ _ m9 _ ⟨rfl, rfl, rfl, ho9⟩
    refine V_goto (tgt := 22) dX7_close_18 (by decide) ?_
    refine V_iret dX7_close_22 rfl rfl ?_
    first
      | (refine ⟨?_, rfl, rfl, ho9⟩
         unfold sClose
         rw [if_pos (show x = 0 ∨ (10 ≤ x ∧ x - 10 < mi 174 12) from (ask_c r2).mp c0)])
      | (refine ⟨?_, rfl, rfl, Off.rf⟩
         unfold sClose
         rw [if_neg (show ¬ (x = 0 ∨ (10 ≤ x ∧ x - 10 < mi 174 12)) from fun h => b01_0.mp c0 ((ask_c r2).mpr h))])
set_option maxRecDepth 4000 in
theorem qX7_boldest (n : Nat) (mi : MI) (mr : MR) (c : CT) (I : INV n mi mr c) (nc : Nat) (e : Nat → Nat) (b : Nat) (hO : VOK mi (hvOf (mi 174)) nc e) (hMV : MV (mi 174) nc e (mi (hvOf (mi 174) + 1)) (mi (hvOf (mi 174) + 2)) b) (x : Int32) : Ct KX7_boldest 12 0 0 [.ref 32, .int x] n mi mr (offQ (some (.int (sBold (mi 174) c nc e (mi (hvOf (mi 174) + 1)) (mi (hvOf (mi 174) + 2)) x))) n mi mr scrC) := by
  refine Ct.of2 [some (.ref 32), some (.int x)] (by decide +kernel) (Nat.le_of_ble_eq_true rfl) rfl ?_
  obtain ⟨hR, hn, ⟨⟨hN, hN6⟩, ⟨hW, hW5⟩, ⟨hL, hL5⟩, ⟨hT, hT100⟩, ⟨hS, hS5⟩, ⟨hP, hP8⟩, ⟨hBk, hB8⟩⟩, hrw⟩ := I.facts
  have hBD := I.2.2.1
  obtain ⟨⟨r1, r2, r3, r4, r5⟩, hper, hvin, htape, hseen, hnight, hbook⟩ := id hrw
  have hcN : nat (mi 40 1) (cN c) := by rw [r2]; exact hN
  have hcW : nat (mi 40 2) (cW c) := by rw [r3]; exact hW
  have hI := I
  clear I
  refine V_aload_n dX7_boldest_0 rfl ?_
  refine V_iload_n dX7_boldest_1 rfl ?_
  refine V_callV (ci := 7) (qX7_isOfSeating _ _ _ hR hn _) dX7_boldest_2 mlX7_191 mtX7_isOfSeating ivX7_isOfSeating rfl rfl ⟨by omega, by omega⟩ (by decide) rfl rfl (by decide) (Nat.le_of_ble_eq_true rfl) rfl rfl ?_
  rintro _ _ _ _ ⟨rfl, rfl, rfl, rfl⟩
  refine V_if_eq (tgt := 21) dX7_boldest_5 (by decide) (fun c0 => ?_) (fun c0 => ?_)
  · refine V_iconst (v := -1) dX7_boldest_21 rfl ?_
    refine V_iret dX7_boldest_22 rfl rfl ?_
    first
      | (refine ⟨?_, rfl, rfl, ho9⟩
         unfold sBold
         rw [if_pos (show x = 0 ∨ (10 ≤ x ∧ x - 10 < mi 174 12) from (ask_c r2).mp c0)])
      | (refine ⟨?_, rfl, rfl, Off.rf⟩
         unfold sBold
         rw [if_neg (show ¬ (x = 0 ∨ (10 ≤ x ∧ x - 10 < mi 174 12)) from fun h => b01_0.mp c0 ((ask_c r2).mpr h))])
  · have c0 := b01_n.mp c0
    refine V_aload_n dX7_boldest_8 rfl ?_
    refine V_getr (b := 130) 7 4 dX7_boldest_9 (Or.inl lkX7_45) rfl rfl ⟨by omega, by omega⟩ (hR _ _ _ rfl) ?_
    refine V_iconst (v := 2) dX7_boldest_12 rfl ?_
    refine V_iconst (v := 0) dX7_boldest_13 rfl ?_
    refine V_iload_n dX7_boldest_14 rfl ?_
    refine V_callV (ci := 4) (qX4_answer n mi mr c hI nc e b hO hMV 2 (by decide) _ 0 x rfl (ask_ok hBD.1 ((ask_c r2).mp c0))) dX7_boldest_15 mlX7_194 mtX4_answer ivX4_answer rfl rfl ⟨by omega, by omega⟩ (by decide) rfl rfl (by decide) (Nat.le_of_ble_eq_true rfl) rfl rfl ?_
    rintro _ _ m9 _ ⟨rfl, rfl, rfl, ho9⟩
    refine V_goto (tgt := 22) dX7_boldest_18 (by decide) ?_
    refine V_iret dX7_boldest_22 rfl rfl ?_
    first
      | (refine ⟨?_, rfl, rfl, ho9⟩
         unfold sBold
         rw [if_pos (show x = 0 ∨ (10 ≤ x ∧ x - 10 < mi 174 12) from (ask_c r2).mp c0)])
      | (refine ⟨?_, rfl, rfl, Off.rf⟩
         unfold sBold
         rw [if_neg (show ¬ (x = 0 ∨ (10 ≤ x ∧ x - 10 < mi 174 12)) from fun h => b01_0.mp c0 ((ask_c r2).mpr h))])
set_option maxRecDepth 4000 in
theorem qX7_fewest (n : Nat) (mi : MI) (mr : MR) (c : CT) (I : INV n mi mr c) (nc : Nat) (e : Nat → Nat) (b : Nat) (hO : VOK mi (hvOf (mi 174)) nc e) (hMV : MV (mi 174) nc e (mi (hvOf (mi 174) + 1)) (mi (hvOf (mi 174) + 2)) b) (set x : Int32) : Ct KX7_fewest 12 0 0 [.ref 32, .int set, .int x] n mi mr (offQ (some (.int (sFewest (mi 174) c nc e (mi (hvOf (mi 174) + 1)) (mi (hvOf (mi 174) + 2)) set x))) n mi mr scrC) := by
  refine Ct.of2 [some (.ref 32), some (.int set), some (.int x)] (by decide +kernel) (Nat.le_of_ble_eq_true rfl) rfl ?_
  obtain ⟨hR, hn, ⟨⟨hN, hN6⟩, ⟨hW, hW5⟩, ⟨hL, hL5⟩, ⟨hT, hT100⟩, ⟨hS, hS5⟩, ⟨hP, hP8⟩, ⟨hBk, hB8⟩⟩, hrw⟩ := I.facts
  have hBD := I.2.2.1
  obtain ⟨⟨r1, r2, r3, r4, r5⟩, hper, hvin, htape, hseen, hnight, hbook⟩ := id hrw
  have hcN : nat (mi 40 1) (cN c) := by rw [r2]; exact hN
  have hcW : nat (mi 40 2) (cW c) := by rw [r3]; exact hW
  have hI := I
  clear I
  refine V_aload_n dX7_fewest_0 rfl ?_
  refine V_iload_n dX7_fewest_1 rfl ?_
  refine V_callV (ci := 7) (qX7_isOfSeating _ _ _ hR hn _) dX7_fewest_2 mlX7_191 mtX7_isOfSeating ivX7_isOfSeating rfl rfl ⟨by omega, by omega⟩ (by decide) rfl rfl (by decide) (Nat.le_of_ble_eq_true rfl) rfl rfl ?_
  rintro _ _ _ _ ⟨rfl, rfl, rfl, rfl⟩
  refine V_if_ne (tgt := 10) dX7_fewest_5 (by decide) (fun c0 => ?_) (fun c0 => ?_)
  · have c0 := b01_n.mp c0
    refine V_iload_n dX7_fewest_10 rfl ?_
    refine V_if_lt (tgt := 27) dX7_fewest_11 (by decide) (fun c11 => ?_) (fun c11 => ?_)
    · refine V_bipush (v := -2) dX7_fewest_27 rfl ?_
      refine V_iret dX7_fewest_29 rfl rfl ?_
      refine ⟨?_, rfl, rfl, Off.rf⟩
      unfold sFewest
      rw [if_pos (show x = 0 ∨ (10 ≤ x ∧ x - 10 < mi 174 12) from (ask_c r2).mp c0)]
      first
        | rw [if_neg (fun h => absurd h.1 (Int32.not_le.mpr c11))]
        | (rw [r2] at c24
           rw [if_neg (fun h => c24 h.2)])
    · refine V_iload_n dX7_fewest_14 rfl ?_
      refine V_iconst (v := 1) dX7_fewest_15 rfl ?_
      refine V_aload_n dX7_fewest_16 rfl ?_
      refine V_getr (b := 40) 7 1 dX7_fewest_17 (Or.inl lkX7_30) rfl rfl ⟨by omega, by omega⟩ (hR _ _ _ rfl) ?_
      refine V_geti 6 1 dX7_fewest_20 lnX7_82 rfl rfl ⟨by omega, by omega⟩ ?_
      refine V_ishl dX7_fewest_23 ?_
      refine V_icmp_lt (tgt := 30) dX7_fewest_24 (by decide) (fun c24 => ?_) (fun c24 => ?_)
      · refine V_aload_n dX7_fewest_30 rfl ?_
        refine V_getr (b := 130) 7 4 dX7_fewest_31 (Or.inl lkX7_45) rfl rfl ⟨by omega, by omega⟩ (hR _ _ _ rfl) ?_
        refine V_iconst (v := 0) dX7_fewest_34 rfl ?_
        refine V_iload_n dX7_fewest_35 rfl ?_
        refine V_iload_n dX7_fewest_36 rfl ?_
        refine V_callV (ci := 4) (qX4_answer n mi mr c hI nc e b hO hMV 0 (by decide) _ set x rfl (ask_ok hBD.1 ((ask_c r2).mp c0))) dX7_fewest_37 mlX7_194 mtX4_answer ivX4_answer rfl rfl ⟨by omega, by omega⟩ (by decide) rfl rfl (by decide) (Nat.le_of_ble_eq_true rfl) rfl rfl ?_
        rintro _ _ m9 _ ⟨rfl, rfl, rfl, ho9⟩
        refine V_iret dX7_fewest_40 rfl rfl ?_
        refine ⟨?_, rfl, rfl, ho9⟩
        unfold sFewest
        rw [r2] at c24
        rw [if_pos (show x = 0 ∨ (10 ≤ x ∧ x - 10 < mi 174 12) from (ask_c r2).mp c0), if_pos ⟨Int32.not_lt.mp c11, c24⟩]
      · refine V_bipush (v := -2) dX7_fewest_27 rfl ?_
        refine V_iret dX7_fewest_29 rfl rfl ?_
        refine ⟨?_, rfl, rfl, Off.rf⟩
        unfold sFewest
        rw [if_pos (show x = 0 ∨ (10 ≤ x ∧ x - 10 < mi 174 12) from (ask_c r2).mp c0)]
        first
          | rw [if_neg (fun h => absurd h.1 (Int32.not_le.mpr c11))]
          | (rw [r2] at c24
             rw [if_neg (fun h => c24 h.2)])
  · refine V_iconst (v := -1) dX7_fewest_8 rfl ?_
    refine V_iret dX7_fewest_9 rfl rfl ?_
    refine ⟨?_, rfl, rfl, Off.rf⟩
    unfold sFewest
    rw [if_neg (show ¬ (x = 0 ∨ (10 ≤ x ∧ x - 10 < mi 174 12)) from fun h => b01_0.mp c0 ((ask_c r2).mpr h))]
