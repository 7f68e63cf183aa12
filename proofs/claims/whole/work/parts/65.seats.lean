noncomputable def qN (S : Nat → Int32) (nc : Nat) (e : Nat → Nat) (s nv : Nat → Int32) (p k : Nat) : Int := (sNerve S nc e s nv p (nI p) (sCh k)).toInt
theorem sCh_u {u : Int32} {k : Nat} (h : u.toInt = (k : Int)) : u - 1 = sCh k := by rw [nI_of_toInt h]; rfl
/-- the places of the seats' rows -/
def offT : Nat → Nat → Prop := fun a _ => a = 177 ∨ a = 178 ∨ a = 179 ∨ a = 180 ∨ a = 183 ∨ a = 184
theorem six {p k q j : Nat} (hk : k < 6) (hj : j < 6) : 6 * p + k = 6 * q + j ↔ (p = q ∧ k = j) := by omega
set_option maxRecDepth 4000 in
theorem qX8_looksForSeats (n : Nat) (mi : MI) (mr : MR) (c : CT) (hR : RF mr) (hn : 186 ≤ n) (hBD : BD (mi 174) c) (nc : Nat) (e : Nat → Nat) (s nv : Nat → Int32) (b : Nat) (hMV : MV (mi 174) nc e s nv b) : Ct KX8_looksForSeats 6 0 0 [.ref 173] n mi mr (fun r n' mi' mr' => none = r ∧ n = n' ∧ mr = mr' ∧ Off offT mi mi' ∧ (∀ p k, p < cN c → k ≤ cW c → mi' 179 (6 * p + k) = sAge (mi 174) p (sCh k) ∧ mi' 184 (6 * p + k) = b01 (qHere (mi 174) p k = true) ∧ mi' 180 (6 * p + k) = (sNerve (mi 174) nc e s nv p (nI p) (sCh k))) ∧ ∀ k, k < cW c → mi' 183 k = mi 174 (7 + k)) := by
  refine Ct.of2 [some (.ref 173), none, none] (by decide +kernel) (Nat.le_of_ble_eq_true rfl) rfl ?_
  obtain ⟨⟨hN, hN6⟩, ⟨hW, hW5⟩, ⟨hL, hL5⟩, ⟨hT, hT100⟩, ⟨hS, hS5⟩, ⟨hP, hP8⟩, ⟨hBk, hB8⟩⟩ := hBD.1
  have e174 : ∀ {m : MI}, Off offT mi m → m 174 = mi 174 := fun h => h.fn (fun k hk => by unfold offT at hk; omega)
  have hyr := hBD.okS.2.1
  have loop3 : ∀ (m k : Nat) (mj : MI) (u : Int32) (z : Option Value), k + m = cW c → u.toInt = (k : Int) → Off offT mi mj → (∀ p k, p < cN c → k ≤ cW c → mj 179 (6 * p + k) = sAge (mi 174) p (sCh k) ∧ mj 184 (6 * p + k) = b01 (qHere (mi 174) p k = true) ∧ mj 180 (6 * p + k) = (sNerve (mi 174) nc e s nv p (nI p) (sCh k))) → (∀ j, j < k → mj 183 j = mi 174 (7 + j)) → V KX8_looksForSeats 6 0 0 (fun r n' mi' mr' => none = r ∧ n = n' ∧ mr = mr' ∧ Off offT mi mi' ∧ (∀ p k, p < cN c → k ≤ cW c → mi' 179 (6 * p + k) = sAge (mi 174) p (sCh k) ∧ mi' 184 (6 * p + k) = b01 (qHere (mi 174) p k = true) ∧ mi' 180 (6 * p + k) = (sNerve (mi 174) nc e s nv p (nI p) (sCh k))) ∧ ∀ k, k < cW c → mi' 183 k = mi 174 (7 + k)) 105 [some (.ref 173), some (.int u), z] [] n mj mr := by
    intro m
    induction m with
    | zero =>
      intro k mj u z hkm hu hoj htab hl
      have eS := e174 hoj
      have hWj : nat (mj 174 19) (cW c) := by rw [eS]; exact hW
      refine V_iload_n dX8_looksForSeats_105 rfl ?_
      refine V_aload_n dX8_looksForSeats_106 rfl ?_
      refine V_getr (b := 174) 8 1 dX8_looksForSeats_107 (Or.inl lkX8_9) rfl rfl ⟨by omega, by omega⟩ (hR _ _ _ rfl) ?_
      refine V_bipush (v := 19) dX8_looksForSeats_110 rfl ?_
      refine V_iald (len := 938) 19 dX8_looksForSeats_112 rfl ⟨by omega, by omega⟩ (by decide) (by omega) ?_
      refine V_icmp_ge (tgt := 137) dX8_looksForSeats_113 (by decide) (fun c113 => ?_) (fun c113 => absurd ((le_nat hWj hu).mpr (by omega)) c113)
      refine V_ret dX8_looksForSeats_137 rfl ?_
      exact ⟨rfl, rfl, rfl, hoj, htab, fun j hj => hl j (by omega)⟩
    | succ m ih =>
      intro k mj u z hkm hu hoj htab hl
      have eS := e174 hoj
      have hWj : nat (mj 174 19) (cW c) := by rw [eS]; exact hW
      refine V_iload_n dX8_looksForSeats_105 rfl ?_
      refine V_aload_n dX8_looksForSeats_106 rfl ?_
      refine V_getr (b := 174) 8 1 dX8_looksForSeats_107 (Or.inl lkX8_9) rfl rfl ⟨by omega, by omega⟩ (hR _ _ _ rfl) ?_
      refine V_bipush (v := 19) dX8_looksForSeats_110 rfl ?_
      refine V_iald (len := 938) 19 dX8_looksForSeats_112 rfl ⟨by omega, by omega⟩ (by decide) (by omega) ?_
      refine V_icmp_ge (tgt := 137) dX8_looksForSeats_113 (by decide) (fun c113 => absurd ((le_nat hWj hu).mp c113) (by omega)) (fun c113 => ?_)
      refine V_aload_n dX8_looksForSeats_116 rfl ?_
      refine V_getr (b := 183) 8 16 dX8_looksForSeats_117 (Or.inl lkX8_40) rfl rfl ⟨by omega, by omega⟩ (hR _ _ _ rfl) ?_
      refine V_iload_n dX8_looksForSeats_120 rfl ?_
      refine V_aload_n dX8_looksForSeats_121 rfl ?_
      refine V_getr (b := 174) 8 1 dX8_looksForSeats_122 (Or.inl lkX8_9) rfl rfl ⟨by omega, by omega⟩ (hR _ _ _ rfl) ?_
      refine V_bipush (v := 7) dX8_looksForSeats_125 rfl ?_
      refine V_iload_n dX8_looksForSeats_127 rfl ?_
      refine V_iadd dX8_looksForSeats_128 ?_
      refine V_iald (len := 938) (7 + k) dX8_looksForSeats_129 rfl ⟨by omega, by omega⟩ (ix_add (a := 7) (by decide) hu (by omega)) (by omega) ?_
      refine V_iast (len := 5) k dX8_looksForSeats_130 rfl ⟨by omega, by omega⟩ hu (by omega) ?_
      refine V_iinc (v := _ + (1)) (L' := [_, _, _]) dX8_looksForSeats_131 (by decide) rfl rfl rfl rfl ?_
      refine V_goto (tgt := 105) dX8_looksForSeats_134 (by decide) ?_
      refine ih (k + 1) _ _ _ (by omega) (ix_add hu (by decide) (by omega)) (hoj.up (by unfold offT; omega)) ?_ (fun j hj => ?_)
      · intro q j hq hj
        rw [up2_row (by decide), up2_row (by decide), up2_row (by decide)]
        exact htab q j hq hj
      · by_cases ej : j = k
        · rw [ej, up2_s, eS]
        · rw [up2_keep (by omega)]
          exact hl j (by omega)
  have loop1 : ∀ (m p : Nat) (mj : MI) (x : Int32) (z : Option Value), p + m = cN c → x.toInt = (p : Int) → Off offT mi mj → (∀ q j, q < cN c → j ≤ cW c → (q < p ∨ (q = p ∧ j < 0)) → mj 179 (6 * q + j) = sAge (mi 174) q (sCh j) ∧ mj 184 (6 * q + j) = b01 (qHere (mi 174) q j = true) ∧ mj 180 (6 * q + j) = (sNerve (mi 174) nc e s nv q (nI q) (sCh j))) → V KX8_looksForSeats 6 0 0 (fun r n' mi' mr' => none = r ∧ n = n' ∧ mr = mr' ∧ Off offT mi mi' ∧ (∀ p k, p < cN c → k ≤ cW c → mi' 179 (6 * p + k) = sAge (mi 174) p (sCh k) ∧ mi' 184 (6 * p + k) = b01 (qHere (mi 174) p k = true) ∧ mi' 180 (6 * p + k) = (sNerve (mi 174) nc e s nv p (nI p) (sCh k))) ∧ ∀ k, k < cW c → mi' 183 k = mi 174 (7 + k)) 2 [some (.ref 173), some (.int x), z] [] n mj mr := by
    intro m
    induction m with
    | zero =>
      intro p mj x z hpm hx hoj hd
      have eS := e174 hoj
      have hNj : nat (mj 174 12) (cN c) := by rw [eS]; exact hN
      refine V_iload_n dX8_looksForSeats_2 rfl ?_
      refine V_aload_n dX8_looksForSeats_3 rfl ?_
      refine V_getr (b := 174) 8 1 dX8_looksForSeats_4 (Or.inl lkX8_9) rfl rfl ⟨by omega, by omega⟩ (hR _ _ _ rfl) ?_
      refine V_bipush (v := 12) dX8_looksForSeats_7 rfl ?_
      refine V_iald (len := 938) 12 dX8_looksForSeats_9 rfl ⟨by omega, by omega⟩ (by decide) (by omega) ?_
      refine V_icmp_ge (tgt := 103) dX8_looksForSeats_10 (by decide) (fun c10 => ?_) (fun c10 => absurd ((le_nat hNj hx).mpr (by omega)) c10)
      refine V_iconst (v := 0) dX8_looksForSeats_103 rfl ?_
      refine V_istore_n (L' := [_, _, _]) dX8_looksForSeats_104 (by decide) rfl rfl ?_
      exact loop3 (cW c) 0 mj _ _ (by omega) (by decide) hoj (fun q j hq hj => hd q j hq hj (Or.inl (by omega))) (fun j hj => absurd hj (Nat.not_lt_zero j))
    | succ m ih =>
      intro p mj x z hpm hx hoj hd
      have eS := e174 hoj
      have hNj : nat (mj 174 12) (cN c) := by rw [eS]; exact hN
      have hxp : x = nI p := nI_of_toInt hx
      have hin : ∀ (m k : Nat) (mj : MI) (u : Int32), k + m = cW c + 1 → u.toInt = (k : Int) → Off offT mi mj → (∀ q j, q < cN c → j ≤ cW c → (q < p ∨ (q = p ∧ j < k)) → mj 179 (6 * q + j) = sAge (mi 174) q (sCh j) ∧ mj 184 (6 * q + j) = b01 (qHere (mi 174) q j = true) ∧ mj 180 (6 * q + j) = (sNerve (mi 174) nc e s nv q (nI q) (sCh j))) → V KX8_looksForSeats 6 0 0 (fun r n' mi' mr' => none = r ∧ n = n' ∧ mr = mr' ∧ Off offT mi mi' ∧ (∀ p k, p < cN c → k ≤ cW c → mi' 179 (6 * p + k) = sAge (mi 174) p (sCh k) ∧ mi' 184 (6 * p + k) = b01 (qHere (mi 174) p k = true) ∧ mi' 180 (6 * p + k) = (sNerve (mi 174) nc e s nv p (nI p) (sCh k))) ∧ ∀ k, k < cW c → mi' 183 k = mi 174 (7 + k)) 15 [some (.ref 173), some (.int x), some (.int u)] [] n mj mr := by
        intro m
        induction m with
        | zero =>
          intro k mj u hkm hu hoj hd
          have eS := e174 hoj
          have hWj : nat (mj 174 19) (cW c) := by rw [eS]; exact hW
          refine V_iload_n dX8_looksForSeats_15 rfl ?_
          refine V_aload_n dX8_looksForSeats_16 rfl ?_
          refine V_getr (b := 174) 8 1 dX8_looksForSeats_17 (Or.inl lkX8_9) rfl rfl ⟨by omega, by omega⟩ (hR _ _ _ rfl) ?_
          refine V_bipush (v := 19) dX8_looksForSeats_20 rfl ?_
          refine V_iald (len := 938) 19 dX8_looksForSeats_22 rfl ⟨by omega, by omega⟩ (by decide) (by omega) ?_
          refine V_icmp_gt (tgt := 97) dX8_looksForSeats_23 (by decide) (fun c23 => ?_) (fun c23 => absurd ((lt_nat hWj hu).mpr (by omega)) c23)
          refine V_iinc (v := _ + (1)) (L' := [_, _, _]) dX8_looksForSeats_97 (by decide) rfl rfl rfl rfl ?_
          refine V_goto (tgt := 2) dX8_looksForSeats_100 (by decide) ?_
          exact ih (p + 1) mj _ _ (by omega) (ix_add hx (by decide) (by omega)) hoj (fun q j hq hj hqj => hd q j hq hj (by omega))
        | succ m ih2 =>
          intro k mj u hkm hu hoj hd
          have hk5 : k ≤ cW c := by omega
          have eS := e174 hoj
          have hWj : nat (mj 174 19) (cW c) := by rw [eS]; exact hW
          have hus := sCh_u hu
          have hin9 := sCh_in hk5 hW5
          have hinO := hin9.ok hW5
          rw [← hus] at hinO hin9
          have hix : (6 * x + u).toInt = ((6 * p + k : Nat) : Int) := ix_add (ix_mul (a := 6) (by decide) hx (by omega)) hu (by omega)
          refine V_iload_n dX8_looksForSeats_15 rfl ?_
          refine V_aload_n dX8_looksForSeats_16 rfl ?_
          refine V_getr (b := 174) 8 1 dX8_looksForSeats_17 (Or.inl lkX8_9) rfl rfl ⟨by omega, by omega⟩ (hR _ _ _ rfl) ?_
          refine V_bipush (v := 19) dX8_looksForSeats_20 rfl ?_
          refine V_iald (len := 938) 19 dX8_looksForSeats_22 rfl ⟨by omega, by omega⟩ (by decide) (by omega) ?_
          refine V_icmp_gt (tgt := 97) dX8_looksForSeats_23 (by decide) (fun c23 => absurd ((lt_nat hWj hu).mp c23) (by omega)) (fun c23 => ?_)
          refine V_aload_n dX8_looksForSeats_26 rfl ?_
          refine V_getr (b := 179) 8 12 dX8_looksForSeats_27 (Or.inl lkX8_28) rfl rfl ⟨by omega, by omega⟩ (hR _ _ _ rfl) ?_
          refine V_bipush (v := 6) dX8_looksForSeats_30 rfl ?_
          refine V_iload_n dX8_looksForSeats_32 rfl ?_
          refine V_imul dX8_looksForSeats_33 ?_
          refine V_iload_n dX8_looksForSeats_34 rfl ?_
          refine V_iadd dX8_looksForSeats_35 ?_
          refine V_aload_n dX8_looksForSeats_36 rfl ?_
          refine V_iload_n dX8_looksForSeats_37 rfl ?_
          refine V_iload_n dX8_looksForSeats_38 rfl ?_
          refine V_iconst (v := 1) dX8_looksForSeats_39 rfl ?_
          refine V_isub dX8_looksForSeats_40 ?_
          refine V_callV (ci := 8) (qX8_ageBy _ _ _ hR hn _ _ p hx (by omega) hinO (by rw [eS]; exact hyr)) dX8_looksForSeats_41 mlX8_146 mtX8_ageBy ivX8_ageBy rfl rfl ⟨by omega, by omega⟩ (by decide) rfl rfl (by decide) (Nat.le_of_ble_eq_true rfl) rfl rfl ?_
          rintro _ _ _ _ ⟨rfl, rfl, rfl, rfl⟩
          rw [eS, hus]
          refine V_iast (len := 36) (6 * p + k) dX8_looksForSeats_44 rfl ⟨by omega, by omega⟩ hix (by omega) ?_
          have o1 : Off offT mi (up2 mj 179 (6 * p + k) (sAge (mi 174) p (sCh k))) := hoj.up (by unfold offT; omega)
          have e1 := e174 o1
          refine V_aload_n dX8_looksForSeats_45 rfl ?_
          refine V_getr (b := 184) 8 17 dX8_looksForSeats_46 (Or.inl lkX8_43) rfl rfl ⟨by omega, by omega⟩ (hR _ _ _ rfl) ?_
          refine V_bipush (v := 6) dX8_looksForSeats_49 rfl ?_
          refine V_iload_n dX8_looksForSeats_51 rfl ?_
          refine V_imul dX8_looksForSeats_52 ?_
          refine V_iload_n dX8_looksForSeats_53 rfl ?_
          refine V_iadd dX8_looksForSeats_54 ?_
          refine V_aload_n dX8_looksForSeats_55 rfl ?_
          refine V_iload_n dX8_looksForSeats_56 rfl ?_
          refine V_aload_n dX8_looksForSeats_57 rfl ?_
          refine V_getr (b := 179) 8 12 dX8_looksForSeats_58 (Or.inl lkX8_28) rfl rfl ⟨by omega, by omega⟩ (hR _ _ _ rfl) ?_
          refine V_bipush (v := 6) dX8_looksForSeats_61 rfl ?_
          refine V_iload_n dX8_looksForSeats_63 rfl ?_
          refine V_imul dX8_looksForSeats_64 ?_
          refine V_iload_n dX8_looksForSeats_65 rfl ?_
          refine V_iadd dX8_looksForSeats_66 ?_
          refine V_iald (len := 36) (6 * p + k) dX8_looksForSeats_67 rfl ⟨by omega, by omega⟩ hix (by omega) ?_
          rw [up2_s]
          refine V_callV (ci := 8) (qX8_isHereAt _ _ _ hR hn _ _ p hx (by omega)) dX8_looksForSeats_68 mlX8_139 mtX8_isHereAt ivX8_isHereAt rfl rfl ⟨by omega, by omega⟩ (by decide) rfl rfl (by decide) (Nat.le_of_ble_eq_true rfl) rfl rfl ?_
          rintro _ _ _ _ ⟨rfl, rfl, rfl, rfl⟩
          rw [e1]
          refine V_zast (len := 36) (6 * p + k) dX8_looksForSeats_71 rfl ⟨by omega, by omega⟩ hix (by omega) b01_nar ?_
          have o2 : Off offT mi (up2 (up2 mj 179 (6 * p + k) (sAge (mi 174) p (sCh k))) 184 (6 * p + k) (b01 (sHereAt (mi 174) p (sAge (mi 174) p (sCh k))))) := o1.up (by unfold offT; omega)
          have e2 := e174 o2
          refine V_aload_n dX8_looksForSeats_72 rfl ?_
          refine V_getr (b := 180) 8 13 dX8_looksForSeats_73 (Or.inl lkX8_31) rfl rfl ⟨by omega, by omega⟩ (hR _ _ _ rfl) ?_
          refine V_bipush (v := 6) dX8_looksForSeats_76 rfl ?_
          refine V_iload_n dX8_looksForSeats_78 rfl ?_
          refine V_imul dX8_looksForSeats_79 ?_
          refine V_iload_n dX8_looksForSeats_80 rfl ?_
          refine V_iadd dX8_looksForSeats_81 ?_
          refine V_aload_n dX8_looksForSeats_82 rfl ?_
          refine V_iload_n dX8_looksForSeats_83 rfl ?_
          refine V_iload_n dX8_looksForSeats_84 rfl ?_
          refine V_iconst (v := 1) dX8_looksForSeats_85 rfl ?_
          refine V_isub dX8_looksForSeats_86 ?_
          refine V_callV (ci := 8) (qX8_nerveBy n _ mr c hR hn (by rw [e2]; exact hBD.w) nc e s nv b (by rw [e2]; exact hMV) _ _ p hx (by omega) hin9) dX8_looksForSeats_87 mlX8_163 mtX8_nerveBy ivX8_nerveBy rfl rfl ⟨by omega, by omega⟩ (by decide) rfl rfl (by decide) (Nat.le_of_ble_eq_true rfl) rfl rfl ?_
          rintro _ _ m9 _ ⟨rfl, rfl, rfl, ho9⟩
          rw [e2, hus, hxp]
          have r9 : ∀ a, a ≠ 177 → a ≠ 178 → m9 a = up2 (up2 mj 179 (6 * p + k) (sAge (mi 174) p (sCh k))) 184 (6 * p + k) (b01 (sHereAt (mi 174) p (sAge (mi 174) p (sCh k)))) a := fun a h1 h2 => ho9.fn (fun j hj => by unfold byM at hj; omega)
          refine V_iast (len := 36) (6 * p + k) dX8_looksForSeats_90 rfl ⟨by omega, by omega⟩ (by rw [← hxp]; exact hix) (by omega) ?_
          refine V_iinc (v := _ + (1)) (L' := [_, _, _]) dX8_looksForSeats_91 (by decide) rfl rfl rfl rfl ?_
          refine V_goto (tgt := 15) dX8_looksForSeats_94 (by decide) ?_
          rw [← hxp]
          refine ih2 (k + 1) _ _ (by omega) (ix_add hu (by decide) (by omega)) ((o2.tr (ho9.mono (fun a j q => by unfold byM at q; unfold offT; omega))).up (by unfold offT; omega)) (fun q j hq hj hqj => ?_)
          by_cases ej : q = p ∧ j = k
          · rw [ej.1, ej.2, up2_s, up2_row (b := 179) (by decide), up2_row (b := 184) (by decide), r9 179 (by decide) (by decide), r9 184 (by decide) (by decide), up2_s, up2_row (b := 179) (by decide), up2_s]
            exact ⟨rfl, b01_iff decide_eq_true_iff.symm, by rw [hxp]⟩
          · have ne : ∀ a : Nat, ¬ (a = a ∧ 6 * q + j = 6 * p + k) := fun a h => ej ((six (by omega) (by omega)).mp h.2)
            have h1 := hd q j hq hj (by omega)
            rw [up2_keep (b := 180) (ne 180), up2_row (b := 179) (by decide), up2_row (b := 184) (by decide), r9 179 (by decide) (by decide), r9 184 (by decide) (by decide), r9 180 (by decide) (by decide), up2_keep (b := 184) (ne 184), up2_row (b := 179) (by decide), up2_keep (b := 179) (ne 179), up2_row (b := 184) (by decide), up2_row (b := 180) (by decide), up2_row (b := 180) (by decide)]
            exact h1
      refine V_iload_n dX8_looksForSeats_2 rfl ?_
      refine V_aload_n dX8_looksForSeats_3 rfl ?_
      refine V_getr (b := 174) 8 1 dX8_looksForSeats_4 (Or.inl lkX8_9) rfl rfl ⟨by omega, by omega⟩ (hR _ _ _ rfl) ?_
      refine V_bipush (v := 12) dX8_looksForSeats_7 rfl ?_
      refine V_iald (len := 938) 12 dX8_looksForSeats_9 rfl ⟨by omega, by omega⟩ (by decide) (by omega) ?_
      refine V_icmp_ge (tgt := 103) dX8_looksForSeats_10 (by decide) (fun c10 => absurd ((le_nat hNj hx).mp c10) (by omega)) (fun c10 => ?_)
      refine V_iconst (v := 0) dX8_looksForSeats_13 rfl ?_
      refine V_istore_n (L' := [_, _, _]) dX8_looksForSeats_14 (by decide) rfl rfl ?_
      exact hin (cW c + 1) 0 mj _ (by omega) (by decide) hoj hd
  refine V_iconst (v := 0) dX8_looksForSeats_0 rfl ?_
  refine V_istore_n (L' := [_, _, _]) dX8_looksForSeats_1 (by decide) rfl rfl ?_
  exact loop1 (cN c) 0 mi _ _ (by omega) (by decide) Off.rf (fun q j hq hj hqj => absurd hqj (by omega))
def SQm (sort N W : Nat) (set : Int32) (H : Nat → Nat → Bool) (A B : Nat → Nat → Int) (mi : MI) : Prop :=
  (nat (mi 174 12) N ∧ N ≤ 6) ∧ (nat (mi 174 19) W ∧ W ≤ 5) ∧ (mi 173 18 = nI sort ∧ sort < 3) ∧ mi 173 19 = set ∧
  ∀ q k, q < N → k ≤ W → (mi 179 (6 * q + k)).toInt = A q k ∧ mi 184 (6 * q + k) = b01 (H q k = true) ∧ (mi 180 (6 * q + k)).toInt = B q k
def offU (p : Nat) : Nat → Nat → Prop := fun a k => (a = 181 ∧ p ≤ k) ∨ a = 182 ∨ (a = 173 ∧ 20 ≤ k ∧ k ≤ 21)
theorem SQm.off {sort N W : Nat} {set : Int32} {H : Nat → Nat → Bool} {A B : Nat → Nat → Int} {mi mj : MI} (h : SQm sort N W set H A B mi) (ho : ∀ a k, ¬ (offU 0 a k ∨ a = 183) → mj a k = mi a k) : SQm sort N W set H A B mj := by
  have row : ∀ a, a ≠ 181 → a ≠ 182 → a ≠ 173 → a ≠ 183 → mj a = mi a := fun a g1 g2 g3 g4 => funext fun k => ho a k (by unfold offU; omega)
  obtain ⟨h1, h2, h3, h4, h5⟩ := h
  refine ⟨?_, ?_, ?_, ?_, fun q k hq hk => ?_⟩
  · rw [row 174 (by decide) (by decide) (by decide) (by decide)]; exact h1
  · rw [row 174 (by decide) (by decide) (by decide) (by decide)]; exact h2
  · rw [ho 173 18 (by unfold offU; omega)]; exact h3
  · rw [ho 173 19 (by unfold offU; omega)]; exact h4
  · rw [row 179 (by decide) (by decide) (by decide) (by decide), row 184 (by decide) (by decide) (by decide) (by decide), row 180 (by decide) (by decide) (by decide) (by decide)]
    exact h5 q k hq hk
def LFm (W : Nat) (lf : Nat → Nat) (mi : MI) : Prop := ∀ k, k < W → (mi 183 k).toInt = (lf (k + 1) : Int) ∧ lf (k + 1) ≤ 100
def STm (p : Nat) (s : Nat → Nat) (mi : MI) : Prop := ∀ q, q < p → (mi 181 q).toInt = (s q : Int)
def BSm (N : Nat) (mi : MI) (st : Option Cand) : Prop := match st with
  | none => mi 173 20 = -1
  | some x => (mi 173 20).toInt = (x.2.1 : Int) ∧ (mi 173 21).toInt = -x.1 ∧ ∀ q, q < N → (mi 182 q).toInt = (x.2.2 q : Int)
theorem BSm.eq {N : Nat} {mi mj : MI} {st : Option Cand} (h : BSm N mi st) (h1 : ∀ k, 20 ≤ k → k ≤ 21 → mj 173 k = mi 173 k) (h2 : ∀ k, mj 182 k = mi 182 k) : BSm N mj st := by
  cases st with
  | none =>
    unfold BSm at *
    rw [h1 20 (by decide) (by decide)]
    exact h
  | some x =>
    unfold BSm at *
    rw [h1 20 (by decide) (by decide), h1 21 (by decide) (by decide)]
    exact ⟨h.1, h.2.1, fun q hq => by rw [h2]; exact h.2.2 q hq⟩
def rF (sort : Nat) (set : Int32) (H : Nat → Nat → Bool) (p k : Nat) : Bool := decide (sort = 2) || (H p k == decide ((set >>> (nI p &&& 31)) &&& 1 = 1))
set_option maxRecDepth 4000 in
theorem qX8_spread (n : Nat) (mi : MI) (mr : MR) (hR : RF mr) (hn : 186 ≤ n) (sort N W : Nat) (set : Int32) (H : Nat → Nat → Bool) (A B : Nat → Nat → Int) (hab : okAB N W A B) (hSR : SQm sort N W set H A B mi) (f : Nat → Nat) (hST : STm N f mi) (hfW : ∀ q, q < N → f q ≤ W) : Ct KX8_spread 1 0 0 [.ref 173] n mi mr (fun r n' mi' mr' => ∃ z : Int32, r = some (.int z) ∧ z.toInt = max 0 (hiTo A f N - loTo A f N) ∧ n = n' ∧ mi = mi' ∧ mr = mr') := by
  refine Ct.of2 [some (.ref 173), none, none, none, none] (by decide +kernel) (Nat.le_of_ble_eq_true rfl) rfl ?_
  obtain ⟨⟨hN, hN6⟩, ⟨hW, hW5⟩, ⟨hso, hs3⟩, hset, hrows⟩ := hSR
  have kh : ∀ p, p ≤ N → -1000000 ≤ hiTo A f p ∧ hiTo A f p ≤ 9000 := fun p hp => ⟨hi_ge, hiTo_bd hab hp (fun q hq => hfW q (by omega))⟩
  have kl : ∀ p, p ≤ N → -9000 ≤ loTo A f p ∧ loTo A f p ≤ 1000000 := fun p hp => ⟨loTo_bd hab hp (fun q hq => hfW q (by omega)), lo_le⟩
  have loop : ∀ (m p : Nat) (x y : Int32) (z z4 : Option Value), p + m = N → x.toInt = (p : Int) → y.toInt = max 0 (hiTo A f p - loTo A f N) → V KX8_spread 1 0 0 (fun r n' mi' mr' => ∃ z : Int32, r = some (.int z) ∧ z.toInt = max 0 (hiTo A f N - loTo A f N) ∧ n = n' ∧ mi = mi' ∧ mr = mr') 4 [some (.ref 173), some (.int y), some (.int x), z, z4] [] n mi mr := by
    intro m
    induction m with
    | zero =>
      intro p x y z z4 hpm hx hy
      have hpN : p = N := by omega
      rw [hpN] at hy
      refine V_iload_n dX8_spread_4 rfl ?_
      refine V_aload_n dX8_spread_5 rfl ?_
      refine V_getr (b := 174) 8 1 dX8_spread_6 (Or.inl lkX8_9) rfl rfl ⟨by omega, by omega⟩ (hR _ _ _ rfl) ?_
      refine V_bipush (v := 12) dX8_spread_9 rfl ?_
      refine V_iald (len := 938) 12 dX8_spread_11 rfl ⟨by omega, by omega⟩ (by decide) (by omega) ?_
      refine V_icmp_ge (tgt := 88) dX8_spread_12 (by decide) (fun c12 => ?_) (fun c12 => absurd ((le_nat hN hx).mpr (by omega)) c12)
      refine V_iload_n dX8_spread_88 rfl ?_
      refine V_iret dX8_spread_89 rfl rfl ?_
      exact ⟨_, rfl, hy, rfl, rfl, rfl⟩
    | succ m ih =>
      intro p x y z z4 hpm hx hy
      have a1 := hrows p (f p) (by omega) (hfW p (by omega))
      have ab1 := hab p (f p) (by omega) (hfW p (by omega))
      have fp5 := hfW p (by omega)
      have loop2 : ∀ (m q : Nat) (u y2 : Int32) (z4 : Option Value), q + m = N → u.toInt = (q : Int) → y2.toInt = max (max 0 (hiTo A f p - loTo A f N)) (A p (f p) - loTo A f q) → V KX8_spread 1 0 0 (fun r n' mi' mr' => ∃ z : Int32, r = some (.int z) ∧ z.toInt = max 0 (hiTo A f N - loTo A f N) ∧ n = n' ∧ mi = mi' ∧ mr = mr') 17 [some (.ref 173), some (.int y2), some (.int x), some (.int u), z4] [] n mi mr := by
        intro m
        induction m with
        | zero =>
          intro q u y2 z4 hqm hu hy2
          have hqN : q = N := by omega
          rw [hqN] at hy2
          refine V_iload_n dX8_spread_17 rfl ?_
          refine V_aload_n dX8_spread_18 rfl ?_
          refine V_getr (b := 174) 8 1 dX8_spread_19 (Or.inl lkX8_9) rfl rfl ⟨by omega, by omega⟩ (hR _ _ _ rfl) ?_
          refine V_bipush (v := 12) dX8_spread_22 rfl ?_
          refine V_iald (len := 938) 12 dX8_spread_24 rfl ⟨by omega, by omega⟩ (by decide) (by omega) ?_
          refine V_icmp_ge (tgt := 82) dX8_spread_25 (by decide) (fun c25 => ?_) (fun c25 => absurd ((le_nat hN hu).mpr (by omega)) c25)
          refine V_iinc (v := _ + (1)) (L' := [_, _, _, _, _]) dX8_spread_82 (by decide) rfl rfl rfl rfl ?_
          refine V_goto (tgt := 4) dX8_spread_85 (by decide) ?_
          refine ih (p + 1) _ _ _ _ (by omega) (ix_add hx (by decide) (by omega)) ?_
          rw [hy2, show hiTo A f (p + 1) = max (hiTo A f p) (A p (f p)) from rfl]
          omega
        | succ m ih2 =>
          intro q u y2 z4 hqm hu hy2
          have a2 := hrows q (f q) (by omega) (hfW q (by omega))
          have ab2 := hab q (f q) (by omega) (hfW q (by omega))
          have fq5 := hfW q (by omega)
          refine V_iload_n dX8_spread_17 rfl ?_
          refine V_aload_n dX8_spread_18 rfl ?_
          refine V_getr (b := 174) 8 1 dX8_spread_19 (Or.inl lkX8_9) rfl rfl ⟨by omega, by omega⟩ (hR _ _ _ rfl) ?_
          refine V_bipush (v := 12) dX8_spread_22 rfl ?_
          refine V_iald (len := 938) 12 dX8_spread_24 rfl ⟨by omega, by omega⟩ (by decide) (by omega) ?_
          refine V_icmp_ge (tgt := 82) dX8_spread_25 (by decide) (fun c25 => absurd ((le_nat hN hu).mp c25) (by omega)) (fun c25 => ?_)
          refine V_aload_n dX8_spread_28 rfl ?_
          refine V_getr (b := 179) 8 12 dX8_spread_29 (Or.inl lkX8_28) rfl rfl ⟨by omega, by omega⟩ (hR _ _ _ rfl) ?_
          refine V_bipush (v := 6) dX8_spread_32 rfl ?_
          refine V_iload_n dX8_spread_34 rfl ?_
          refine V_imul dX8_spread_35 ?_
          refine V_aload_n dX8_spread_36 rfl ?_
          refine V_getr (b := 181) 8 14 dX8_spread_37 (Or.inl lkX8_34) rfl rfl ⟨by omega, by omega⟩ (hR _ _ _ rfl) ?_
          refine V_iload_n dX8_spread_40 rfl ?_
          refine V_iald (len := 6) p dX8_spread_41 rfl ⟨by omega, by omega⟩ hx (by omega) ?_
          refine V_iadd dX8_spread_42 ?_
          refine V_iald (len := 36) (6 * p + f p) dX8_spread_43 rfl ⟨by omega, by omega⟩ (ix_add (ix_mul (a := 6) (by decide) hx (by omega)) (hST p (by omega)) (by omega)) (by omega) ?_
          refine V_aload_n dX8_spread_44 rfl ?_
          refine V_getr (b := 179) 8 12 dX8_spread_45 (Or.inl lkX8_28) rfl rfl ⟨by omega, by omega⟩ (hR _ _ _ rfl) ?_
          refine V_bipush (v := 6) dX8_spread_48 rfl ?_
          refine V_iload_n dX8_spread_50 rfl ?_
          refine V_imul dX8_spread_51 ?_
          refine V_aload_n dX8_spread_52 rfl ?_
          refine V_getr (b := 181) 8 14 dX8_spread_53 (Or.inl lkX8_34) rfl rfl ⟨by omega, by omega⟩ (hR _ _ _ rfl) ?_
          refine V_iload_n dX8_spread_56 rfl ?_
          refine V_iald (len := 6) q dX8_spread_57 rfl ⟨by omega, by omega⟩ hu (by omega) ?_
          refine V_iadd dX8_spread_58 ?_
          refine V_iald (len := 36) (6 * q + f q) dX8_spread_59 rfl ⟨by omega, by omega⟩ (ix_add (ix_mul (a := 6) (by decide) hu (by omega)) (hST q (by omega)) (by omega)) (by omega) ?_
          refine V_isub dX8_spread_60 ?_
          have hdf := i_sub a1.1 a2.1 (by omega)
          refine V_istore (L' := [_, _, _, _, _]) dX8_spread_61 (by decide) rfl rfl ?_
          refine V_iload dX8_spread_63 rfl ?_
          refine V_iload_n dX8_spread_65 rfl ?_
          refine V_icmp_le (tgt := 74) dX8_spread_66 (by decide) (fun c66 => ?_) (fun c66 => ?_)
          · refine V_iload_n dX8_spread_74 rfl ?_
            refine V_istore_n (L' := [_, _, _, _, _]) dX8_spread_75 (by decide) rfl rfl ?_
            refine V_iinc (v := _ + (1)) (L' := [_, _, _, _, _]) dX8_spread_76 (by decide) rfl rfl rfl rfl ?_
            refine V_goto (tgt := 17) dX8_spread_79 (by decide) ?_
            refine ih2 (q + 1) _ _ _ (by omega) (ix_add hu (by decide) (by omega)) ?_
            have e1 : loTo A f (q + 1) = min (loTo A f q) (A q (f q)) := rfl
            rw [Int32.le_iff_toInt_le, hdf, hy2] at c66
            rw [e1]
            first
              | (rw [hdf]; omega)
              | (rw [hy2]; omega)
          · refine V_iload dX8_spread_69 rfl ?_
            refine V_goto (tgt := 75) dX8_spread_71 (by decide) ?_
            refine V_istore_n (L' := [_, _, _, _, _]) dX8_spread_75 (by decide) rfl rfl ?_
            refine V_iinc (v := _ + (1)) (L' := [_, _, _, _, _]) dX8_spread_76 (by decide) rfl rfl rfl rfl ?_
            refine V_goto (tgt := 17) dX8_spread_79 (by decide) ?_
            refine ih2 (q + 1) _ _ _ (by omega) (ix_add hu (by decide) (by omega)) ?_
            have e1 : loTo A f (q + 1) = min (loTo A f q) (A q (f q)) := rfl
            rw [Int32.le_iff_toInt_le, hdf, hy2] at c66
            rw [e1]
            first
              | (rw [hdf]; omega)
              | (rw [hy2]; omega)
      refine V_iload_n dX8_spread_4 rfl ?_
      refine V_aload_n dX8_spread_5 rfl ?_
      refine V_getr (b := 174) 8 1 dX8_spread_6 (Or.inl lkX8_9) rfl rfl ⟨by omega, by omega⟩ (hR _ _ _ rfl) ?_
      refine V_bipush (v := 12) dX8_spread_9 rfl ?_
      refine V_iald (len := 938) 12 dX8_spread_11 rfl ⟨by omega, by omega⟩ (by decide) (by omega) ?_
      refine V_icmp_ge (tgt := 88) dX8_spread_12 (by decide) (fun c12 => absurd ((le_nat hN hx).mp c12) (by omega)) (fun c12 => ?_)
      refine V_iconst (v := 0) dX8_spread_15 rfl ?_
      refine V_istore_n (L' := [_, _, _, _, _]) dX8_spread_16 (by decide) rfl rfl ?_
      refine loop2 N 0 _ _ _ (by omega) (by decide) ?_
      have e0 : loTo A f 0 = 1000000 := rfl
      rw [hy, e0]
      omega
  refine V_iconst (v := 0) dX8_spread_0 rfl ?_
  refine V_istore_n (L' := [_, _, _, _, _]) dX8_spread_1 (by decide) rfl rfl ?_
  refine V_iconst (v := 0) dX8_spread_2 rfl ?_
  refine V_istore_n (L' := [_, _, _, _, _]) dX8_spread_3 (by decide) rfl rfl ?_
  refine loop N 0 _ _ _ _ (by omega) (by decide) ?_
  have e0 : hiTo A f 0 = -1000000 := rfl
  have := kl N (Nat.le_refl _)
  rw [e0]
  show (0 : Int) = _
  omega
set_option maxRecDepth 4000 in
theorem qX8_worth (n : Nat) (mi : MI) (mr : MR) (hR : RF mr) (hn : 186 ≤ n) (sort N W : Nat) (set : Int32) (H : Nat → Nat → Bool) (A B : Nat → Nat → Int) (hab : okAB N W A B) (hSR : SQm sort N W set H A B mi) (f : Nat → Nat) (hST : STm N f mi) (hfW : ∀ q, q < N → f q ≤ W) : Ct KX8_worth 2 0 0 [.ref 173] n mi mr (fun r n' mi' mr' => ∃ z : Int32, r = some (.int z) ∧ z.toInt = -cCost sort N A (fun p k => if sort = 2 then B p k else 0) f ∧ n = n' ∧ mi = mi' ∧ mr = mr') := by
  refine Ct.of2 [some (.ref 173), none, none] (by decide +kernel) (Nat.le_of_ble_eq_true rfl) rfl ?_
  have hSR0 := hSR
  obtain ⟨⟨hN, hN6⟩, ⟨hW, hW5⟩, ⟨hso, hs3⟩, hset, hrows⟩ := hSR
  have hs2 : mi 173 18 = 2 ↔ sort = 2 := sort_c hso hs3 2 (by decide)
  have hs1 : mi 173 18 = 1 ↔ sort = 1 := sort_c hso hs3 1 (by decide)
  have hs0 : mi 173 18 = 0 ↔ sort = 0 := sort_c hso hs3 0 (by decide)
  have loop : ∀ (m p : Nat) (x y : Int32), p + m = N → x.toInt = (p : Int) → y.toInt = nvTo B f p → V KX8_worth 2 0 0 (fun r n' mi' mr' => ∃ z : Int32, r = some (.int z) ∧ z.toInt = -cCost sort N A (fun p k => if sort = 2 then B p k else 0) f ∧ n = n' ∧ mi = mi' ∧ mr = mr') 4 [some (.ref 173), some (.int y), some (.int x)] [] n mi mr := by
    intro m
    induction m with
    | zero =>
      intro p x y hpm hx hy
      have hpN : p = N := by omega
      rw [hpN] at hy
      refine V_iload_n dX8_worth_4 rfl ?_
      refine V_aload_n dX8_worth_5 rfl ?_
      refine V_getr (b := 174) 8 1 dX8_worth_6 (Or.inl lkX8_9) rfl rfl ⟨by omega, by omega⟩ (hR _ _ _ rfl) ?_
      refine V_bipush (v := 12) dX8_worth_9 rfl ?_
      refine V_iald (len := 938) 12 dX8_worth_11 rfl ⟨by omega, by omega⟩ (by decide) (by omega) ?_
      refine V_icmp_ge (tgt := 40) dX8_worth_12 (by decide) (fun c12 => ?_) (fun c12 => absurd ((le_nat hN hx).mpr (by omega)) c12)
      refine V_aload_n dX8_worth_40 rfl ?_
      refine V_geti 8 18 dX8_worth_41 (Or.inl lkX8_204) rfl rfl ⟨by omega, by omega⟩ ?_
      refine V_if_ne (tgt := 51) dX8_worth_44 (by decide) (fun c44 => ?_) (fun c44 => ?_)
      · refine V_aload_n dX8_worth_51 rfl ?_
        refine V_geti 8 18 dX8_worth_52 (Or.inl lkX8_204) rfl rfl ⟨by omega, by omega⟩ ?_
        refine V_iconst (v := 1) dX8_worth_55 rfl ?_
        refine V_icmp_ne (tgt := 67) dX8_worth_56 (by decide) (fun c56 => ?_) (fun c56 => ?_)
        · refine V_iload_n dX8_worth_67 rfl ?_
          refine V_iret dX8_worth_68 rfl rfl ?_
          first
            | (refine ⟨_, rfl, ?_, rfl, rfl, rfl⟩
               unfold cCost
               rw [if_pos (hs0.mp c44)]
               decide)
            | (refine ⟨_, rfl, ?_, rfl, rfl, rfl⟩
               have kh := hiTo_bd (f := f) hab (Nat.le_refl N) hfW
               have kl := loTo_bd (f := f) hab (Nat.le_refl N) hfW
               unfold cCost
               rw [if_neg (fun h => c44 (hs0.mpr h)), if_pos (hs1.mp c56)]
               exact i_neg hsp (by omega))
            | (refine ⟨_, rfl, ?_, rfl, rfl, rfl⟩
               have s2 : sort = 2 := by
                 have g0 : ¬ sort = 0 := fun h => c44 (hs0.mpr h)
                 have g1 : ¬ sort = 1 := fun h => c56 (hs1.mpr h)
                 omega
               unfold cCost
               rw [if_neg (fun h => c44 (hs0.mpr h)), if_neg (fun h => c56 (hs1.mpr h)), Int.neg_neg, hy]
               rw [show (fun p k => if sort = 2 then B p k else 0) = B from by funext p k; rw [if_pos s2]])
        · refine V_aload_n dX8_worth_59 rfl ?_
          refine V_callV (ci := 8) (qX8_spread n mi mr hR hn sort N W set H A B hab hSR0 f hST hfW) dX8_worth_60 mlX8_207 mtX8_spread ivX8_spread rfl rfl ⟨by omega, by omega⟩ (by decide) rfl rfl (by decide) (Nat.le_of_ble_eq_true rfl) rfl rfl ?_
          rintro _ _ _ _ ⟨sp, rfl, hsp, rfl, rfl, rfl⟩
          refine V_ineg dX8_worth_63 ?_
          refine V_goto (tgt := 68) dX8_worth_64 (by decide) ?_
          refine V_iret dX8_worth_68 rfl rfl ?_
          first
            | (refine ⟨_, rfl, ?_, rfl, rfl, rfl⟩
               unfold cCost
               rw [if_pos (hs0.mp c44)]
               decide)
            | (refine ⟨_, rfl, ?_, rfl, rfl, rfl⟩
               have kh := hiTo_bd (f := f) hab (Nat.le_refl N) hfW
               have kl := loTo_bd (f := f) hab (Nat.le_refl N) hfW
               unfold cCost
               rw [if_neg (fun h => c44 (hs0.mpr h)), if_pos (hs1.mp c56)]
               exact i_neg hsp (by omega))
            | (refine ⟨_, rfl, ?_, rfl, rfl, rfl⟩
               have s2 : sort = 2 := by
                 have g0 : ¬ sort = 0 := fun h => c44 (hs0.mpr h)
                 have g1 : ¬ sort = 1 := fun h => c56 (hs1.mpr h)
                 omega
               unfold cCost
               rw [if_neg (fun h => c44 (hs0.mpr h)), if_neg (fun h => c56 (hs1.mpr h)), Int.neg_neg, hy]
               rw [show (fun p k => if sort = 2 then B p k else 0) = B from by funext p k; rw [if_pos s2]])
      · refine V_iconst (v := 0) dX8_worth_47 rfl ?_
        refine V_goto (tgt := 68) dX8_worth_48 (by decide) ?_
        refine V_iret dX8_worth_68 rfl rfl ?_
        first
          | (refine ⟨_, rfl, ?_, rfl, rfl, rfl⟩
             unfold cCost
             rw [if_pos (hs0.mp c44)]
             decide)
          | (refine ⟨_, rfl, ?_, rfl, rfl, rfl⟩
             have kh := hiTo_bd (f := f) hab (Nat.le_refl N) hfW
             have kl := loTo_bd (f := f) hab (Nat.le_refl N) hfW
             unfold cCost
             rw [if_neg (fun h => c44 (hs0.mpr h)), if_pos (hs1.mp c56)]
             exact i_neg hsp (by omega))
          | (refine ⟨_, rfl, ?_, rfl, rfl, rfl⟩
             have s2 : sort = 2 := by
               have g0 : ¬ sort = 0 := fun h => c44 (hs0.mpr h)
               have g1 : ¬ sort = 1 := fun h => c56 (hs1.mpr h)
               omega
             unfold cCost
             rw [if_neg (fun h => c44 (hs0.mpr h)), if_neg (fun h => c56 (hs1.mpr h)), Int.neg_neg, hy]
             rw [show (fun p k => if sort = 2 then B p k else 0) = B from by funext p k; rw [if_pos s2]])
    | succ m ih =>
      intro p x y hpm hx hy
      have a1 := hrows p (f p) (by omega) (hfW p (by omega))
      have ab1 := hab p (f p) (by omega) (hfW p (by omega))
      have fp5 := hfW p (by omega)
      have kv := nvTo_bd (f := f) hab (p := p) (by omega) (fun q hq => hfW q (by omega))
      refine V_iload_n dX8_worth_4 rfl ?_
      refine V_aload_n dX8_worth_5 rfl ?_
      refine V_getr (b := 174) 8 1 dX8_worth_6 (Or.inl lkX8_9) rfl rfl ⟨by omega, by omega⟩ (hR _ _ _ rfl) ?_
      refine V_bipush (v := 12) dX8_worth_9 rfl ?_
      refine V_iald (len := 938) 12 dX8_worth_11 rfl ⟨by omega, by omega⟩ (by decide) (by omega) ?_
      refine V_icmp_ge (tgt := 40) dX8_worth_12 (by decide) (fun c12 => absurd ((le_nat hN hx).mp c12) (by omega)) (fun c12 => ?_)
      refine V_iload_n dX8_worth_15 rfl ?_
      refine V_aload_n dX8_worth_16 rfl ?_
      refine V_getr (b := 180) 8 13 dX8_worth_17 (Or.inl lkX8_31) rfl rfl ⟨by omega, by omega⟩ (hR _ _ _ rfl) ?_
      refine V_bipush (v := 6) dX8_worth_20 rfl ?_
      refine V_iload_n dX8_worth_22 rfl ?_
      refine V_imul dX8_worth_23 ?_
      refine V_aload_n dX8_worth_24 rfl ?_
      refine V_getr (b := 181) 8 14 dX8_worth_25 (Or.inl lkX8_34) rfl rfl ⟨by omega, by omega⟩ (hR _ _ _ rfl) ?_
      refine V_iload_n dX8_worth_28 rfl ?_
      refine V_iald (len := 6) p dX8_worth_29 rfl ⟨by omega, by omega⟩ hx (by omega) ?_
      refine V_iadd dX8_worth_30 ?_
      refine V_iald (len := 36) (6 * p + f p) dX8_worth_31 rfl ⟨by omega, by omega⟩ (ix_add (ix_mul (a := 6) (by decide) hx (by omega)) (hST p (by omega)) (by omega)) (by omega) ?_
      refine V_iadd dX8_worth_32 ?_
      refine V_istore_n (L' := [_, _, _]) dX8_worth_33 (by decide) rfl rfl ?_
      refine V_iinc (v := _ + (1)) (L' := [_, _, _]) dX8_worth_34 (by decide) rfl rfl rfl rfl ?_
      refine V_goto (tgt := 4) dX8_worth_37 (by decide) ?_
      refine ih (p + 1) _ _ (by omega) (ix_add hx (by decide) (by omega)) ?_
      unfold nvTo
      exact i_add hy a1.2.2 (by omega)
  refine V_iconst (v := 0) dX8_worth_0 rfl ?_
  refine V_istore_n (L' := [_, _, _]) dX8_worth_1 (by decide) rfl rfl ?_
  refine V_iconst (v := 0) dX8_worth_2 rfl ?_
  refine V_istore_n (L' := [_, _, _]) dX8_worth_3 (by decide) rfl rfl ?_
  exact loop N 0 _ _ (by omega) (by decide) (by show (0 : Int32).toInt = 0; decide)
set_option maxRecDepth 4000 in
theorem qX8_keepsSeat (n : Nat) (mi : MI) (mr : MR) (hR : RF mr) (hn : 186 ≤ n) (sort N W : Nat) (set : Int32) (H : Nat → Nat → Bool) (A B : Nat → Nat → Int) (hab : okAB N W A B) (hSR : SQm sort N W set H A B mi) (f : Nat → Nat) (hST : STm N f mi) (hfW : ∀ q, q < N → f q ≤ W) (st : Option Cand) (hBS : BSm N mi st) (y : Int32) (hv : Nat) (hy : y.toInt = (hv : Int)) : Ct KX8_keepsSeat 3 0 0 [.ref 173, .int y] n mi mr (fun r n' mi' mr' => none = r ∧ n = n' ∧ mr = mr' ∧ Off (fun a k => a = 182 ∨ (a = 173 ∧ 20 ≤ k ∧ k ≤ 21)) mi mi' ∧ BSm N mi' (upB st ((cCost sort N A (fun p k => if sort = 2 then B p k else 0) f), hv, f))) := by
  refine Ct.of2 [some (.ref 173), some (.int y), none, none] (by decide +kernel) (Nat.le_of_ble_eq_true rfl) rfl ?_
  have hSR0 := hSR
  obtain ⟨⟨hN, hN6⟩, ⟨hW, hW5⟩, ⟨hso, hs3⟩, hset, hrows⟩ := hSR
  have loop : ∀ (m p : Nat) (mj : MI) (x wv : Int32), wv.toInt = -(cCost sort N A (fun p k => if sort = 2 then B p k else 0) f) → p + m = N → x.toInt = (p : Int) → Off (fun a k => a = 182 ∨ (a = 173 ∧ 20 ≤ k ∧ k ≤ 21)) mi mj → upB st ((cCost sort N A (fun p k => if sort = 2 then B p k else 0) f), hv, f) = some ((cCost sort N A (fun p k => if sort = 2 then B p k else 0) f), hv, f) → mj 173 20 = y → mj 173 21 = wv → (∀ q, q < p → (mj 182 q).toInt = (f q : Int)) → V KX8_keepsSeat 3 0 0 (fun r n' mi' mr' => none = r ∧ n = n' ∧ mr = mr' ∧ Off (fun a k => a = 182 ∨ (a = 173 ∧ 20 ≤ k ∧ k ≤ 21)) mi mi' ∧ BSm N mi' (upB st ((cCost sort N A (fun p k => if sort = 2 then B p k else 0) f), hv, f))) 49 [some (.ref 173), some (.int y), some (.int wv), some (.int x)] [] n mj mr := by
    intro m
    induction m with
    | zero =>
      intro p mj x wv hwv hpm hx hoj hup h20 h21 hb
      have hpN : p = N := by omega
      have e174 : mj 174 = mi 174 := hoj.fn (fun k => by omega)
      have hNj : nat (mj 174 12) N := by rw [e174]; exact hN
      refine V_iload_n dX8_keepsSeat_49 rfl ?_
      refine V_aload_n dX8_keepsSeat_50 rfl ?_
      refine V_getr (b := 174) 8 1 dX8_keepsSeat_51 (Or.inl lkX8_9) rfl rfl ⟨by omega, by omega⟩ (hR _ _ _ rfl) ?_
      refine V_bipush (v := 12) dX8_keepsSeat_54 rfl ?_
      refine V_iald (len := 938) 12 dX8_keepsSeat_56 rfl ⟨by omega, by omega⟩ (by decide) (by omega) ?_
      refine V_icmp_ge (tgt := 78) dX8_keepsSeat_57 (by decide) (fun c57 => ?_) (fun c57 => absurd ((le_nat hNj hx).mpr (by omega)) c57)
      refine V_ret dX8_keepsSeat_78 rfl ?_
      refine ⟨rfl, rfl, rfl, hoj, ?_⟩
      rw [hup]
      exact ⟨by rw [h20]; exact hy, by rw [h21]; exact hwv, fun q hq => hb q (by omega)⟩
    | succ m ih =>
      intro p mj x wv hwv hpm hx hoj hup h20 h21 hb
      have e174 : mj 174 = mi 174 := hoj.fn (fun k => by omega)
      have hNj : nat (mj 174 12) N := by rw [e174]; exact hN
      refine V_iload_n dX8_keepsSeat_49 rfl ?_
      refine V_aload_n dX8_keepsSeat_50 rfl ?_
      refine V_getr (b := 174) 8 1 dX8_keepsSeat_51 (Or.inl lkX8_9) rfl rfl ⟨by omega, by omega⟩ (hR _ _ _ rfl) ?_
      refine V_bipush (v := 12) dX8_keepsSeat_54 rfl ?_
      refine V_iald (len := 938) 12 dX8_keepsSeat_56 rfl ⟨by omega, by omega⟩ (by decide) (by omega) ?_
      refine V_icmp_ge (tgt := 78) dX8_keepsSeat_57 (by decide) (fun c57 => absurd ((le_nat hNj hx).mp c57) (by omega)) (fun c57 => ?_)
      refine V_aload_n dX8_keepsSeat_60 rfl ?_
      refine V_getr (b := 182) 8 15 dX8_keepsSeat_61 (Or.inl lkX8_37) rfl rfl ⟨by omega, by omega⟩ (hR _ _ _ rfl) ?_
      refine V_iload_n dX8_keepsSeat_64 rfl ?_
      refine V_aload_n dX8_keepsSeat_65 rfl ?_
      refine V_getr (b := 181) 8 14 dX8_keepsSeat_66 (Or.inl lkX8_34) rfl rfl ⟨by omega, by omega⟩ (hR _ _ _ rfl) ?_
      refine V_iload_n dX8_keepsSeat_69 rfl ?_
      refine V_iald (len := 6) p dX8_keepsSeat_70 rfl ⟨by omega, by omega⟩ hx (by omega) ?_
      refine V_iast (len := 6) p dX8_keepsSeat_71 rfl ⟨by omega, by omega⟩ hx (by omega) ?_
      refine V_iinc (v := _ + (1)) (L' := [_, _, _, _]) dX8_keepsSeat_72 (by decide) rfl rfl rfl rfl ?_
      refine V_goto (tgt := 49) dX8_keepsSeat_75 (by decide) ?_
      refine ih (p + 1) _ _ _ hwv (by omega) (ix_add hx (by decide) (by omega)) (hoj.up (Or.inl rfl)) hup (by rw [up2_row (by decide)]; exact h20) (by rw [up2_row (by decide)]; exact h21) (fun q hq => ?_)
      by_cases eq : q = p
      · rw [eq, up2_s, hoj 181 p (by omega)]
        exact hST p (by omega)
      · rw [up2_keep (by omega)]
        exact hb q (by omega)
  refine V_aload_n dX8_keepsSeat_0 rfl ?_
  refine V_callV (ci := 8) (qX8_worth n mi mr hR hn sort N W set H A B hab hSR0 f hST hfW) dX8_keepsSeat_1 mlX8_210 mtX8_worth ivX8_worth rfl rfl ⟨by omega, by omega⟩ (by decide) rfl rfl (by decide) (Nat.le_of_ble_eq_true rfl) rfl rfl ?_
  rintro _ _ _ _ ⟨wv, rfl, hwv, rfl, rfl, rfl⟩
  refine V_istore_n (L' := [_, _, _, _]) dX8_keepsSeat_4 (by decide) rfl rfl ?_
  refine V_aload_n dX8_keepsSeat_5 rfl ?_
  refine V_geti 8 20 dX8_keepsSeat_6 (Or.inl lkX8_213) rfl rfl ⟨by omega, by omega⟩ ?_
  refine V_iconst (v := -1) dX8_keepsSeat_9 rfl ?_
  refine V_icmp_eq (tgt := 37) dX8_keepsSeat_10 (by decide) (fun c10 => ?_) (fun c10 => ?_)
  · refine V_aload_n dX8_keepsSeat_37 rfl ?_
    refine V_iload_n dX8_keepsSeat_38 rfl ?_
    refine V_puti 8 20 dX8_keepsSeat_39 (Or.inl lkX8_213) rfl rfl rfl rfl ⟨by omega, by omega⟩ ?_
    refine V_aload_n dX8_keepsSeat_42 rfl ?_
    refine V_iload_n dX8_keepsSeat_43 rfl ?_
    refine V_puti 8 21 dX8_keepsSeat_44 (Or.inl lkX8_216) rfl rfl rfl rfl ⟨by omega, by omega⟩ ?_
    refine V_iconst (v := 0) dX8_keepsSeat_47 rfl ?_
    refine V_istore_n (L' := [_, _, _, _]) dX8_keepsSeat_48 (by decide) rfl rfl ?_
    refine loop N 0 _ _ _ hwv (by omega) (by decide) ((Off.rf.up (Or.inr ⟨rfl, by omega, by omega⟩)).up (Or.inr ⟨rfl, by omega, by omega⟩)) ?_ (by rw [up2_keep (by decide), up2_s]) (by rw [up2_s]) (fun q hq => absurd hq (Nat.not_lt_zero q))
    cases st with
    | none => rfl
    | some b =>
      obtain ⟨g1, g2, g3⟩ := hBS
      refine upB_yes ?_
      unfold btr
      show (cCost sort N A (fun p k => if sort = 2 then B p k else 0) f) < b.1 ∨ (cCost sort N A (fun p k => if sort = 2 then B p k else 0) f) = b.1 ∧ hv < b.2.1
      first
        | (exfalso
           rw [c10] at g1
           simp only [Int32.reduceToInt] at g1
           omega)
        | (rw [Int32.lt_iff_toInt_lt, hwv, g2] at c18
           omega)
        | (rw [← Int32.toInt_inj, hwv, g2] at c26
           rw [Int32.le_iff_toInt_le, hy, g1] at c34
           omega)
  · refine V_iload_n dX8_keepsSeat_13 rfl ?_
    refine V_aload_n dX8_keepsSeat_14 rfl ?_
    refine V_geti 8 21 dX8_keepsSeat_15 (Or.inl lkX8_216) rfl rfl ⟨by omega, by omega⟩ ?_
    refine V_icmp_gt (tgt := 37) dX8_keepsSeat_18 (by decide) (fun c18 => ?_) (fun c18 => ?_)
    · refine V_aload_n dX8_keepsSeat_37 rfl ?_
      refine V_iload_n dX8_keepsSeat_38 rfl ?_
      refine V_puti 8 20 dX8_keepsSeat_39 (Or.inl lkX8_213) rfl rfl rfl rfl ⟨by omega, by omega⟩ ?_
      refine V_aload_n dX8_keepsSeat_42 rfl ?_
      refine V_iload_n dX8_keepsSeat_43 rfl ?_
      refine V_puti 8 21 dX8_keepsSeat_44 (Or.inl lkX8_216) rfl rfl rfl rfl ⟨by omega, by omega⟩ ?_
      refine V_iconst (v := 0) dX8_keepsSeat_47 rfl ?_
      refine V_istore_n (L' := [_, _, _, _]) dX8_keepsSeat_48 (by decide) rfl rfl ?_
      refine loop N 0 _ _ _ hwv (by omega) (by decide) ((Off.rf.up (Or.inr ⟨rfl, by omega, by omega⟩)).up (Or.inr ⟨rfl, by omega, by omega⟩)) ?_ (by rw [up2_keep (by decide), up2_s]) (by rw [up2_s]) (fun q hq => absurd hq (Nat.not_lt_zero q))
      cases st with
      | none => rfl
      | some b =>
        obtain ⟨g1, g2, g3⟩ := hBS
        refine upB_yes ?_
        unfold btr
        show (cCost sort N A (fun p k => if sort = 2 then B p k else 0) f) < b.1 ∨ (cCost sort N A (fun p k => if sort = 2 then B p k else 0) f) = b.1 ∧ hv < b.2.1
        first
          | (exfalso
             rw [c10] at g1
             simp only [Int32.reduceToInt] at g1
             omega)
          | (rw [Int32.lt_iff_toInt_lt, hwv, g2] at c18
             omega)
          | (rw [← Int32.toInt_inj, hwv, g2] at c26
             rw [Int32.le_iff_toInt_le, hy, g1] at c34
             omega)
    · refine V_iload_n dX8_keepsSeat_21 rfl ?_
      refine V_aload_n dX8_keepsSeat_22 rfl ?_
      refine V_geti 8 21 dX8_keepsSeat_23 (Or.inl lkX8_216) rfl rfl ⟨by omega, by omega⟩ ?_
      refine V_icmp_ne (tgt := 78) dX8_keepsSeat_26 (by decide) (fun c26 => ?_) (fun c26 => ?_)
      · refine V_ret dX8_keepsSeat_78 rfl ?_
        refine ⟨rfl, rfl, rfl, Off.rf, ?_⟩
        cases st with
        | none => exact absurd hBS c10
        | some b =>
          have hBS2 := hBS
          obtain ⟨g1, g2, g3⟩ := hBS
          rw [upB_no (x := ((cCost sort N A (fun p k => if sort = 2 then B p k else 0) f), hv, f))]
          · exact hBS2
          · unfold btr
            show ¬ ((cCost sort N A (fun p k => if sort = 2 then B p k else 0) f) < b.1 ∨ (cCost sort N A (fun p k => if sort = 2 then B p k else 0) f) = b.1 ∧ hv < b.2.1)
            rw [Int32.lt_iff_toInt_lt, hwv, g2] at c18
            first
              | (rw [← Int32.toInt_inj, hwv, g2] at c26
                 omega)
              | (rw [Int32.le_iff_toInt_le, hy, g1] at c34
                 omega)
      · refine V_iload_n dX8_keepsSeat_29 rfl ?_
        refine V_aload_n dX8_keepsSeat_30 rfl ?_
        refine V_geti 8 20 dX8_keepsSeat_31 (Or.inl lkX8_213) rfl rfl ⟨by omega, by omega⟩ ?_
        refine V_icmp_ge (tgt := 78) dX8_keepsSeat_34 (by decide) (fun c34 => ?_) (fun c34 => ?_)
        · refine V_ret dX8_keepsSeat_78 rfl ?_
          refine ⟨rfl, rfl, rfl, Off.rf, ?_⟩
          cases st with
          | none => exact absurd hBS c10
          | some b =>
            have hBS2 := hBS
            obtain ⟨g1, g2, g3⟩ := hBS
            rw [upB_no (x := ((cCost sort N A (fun p k => if sort = 2 then B p k else 0) f), hv, f))]
            · exact hBS2
            · unfold btr
              show ¬ ((cCost sort N A (fun p k => if sort = 2 then B p k else 0) f) < b.1 ∨ (cCost sort N A (fun p k => if sort = 2 then B p k else 0) f) = b.1 ∧ hv < b.2.1)
              rw [Int32.lt_iff_toInt_lt, hwv, g2] at c18
              first
                | (rw [← Int32.toInt_inj, hwv, g2] at c26
                   omega)
                | (rw [Int32.le_iff_toInt_le, hy, g1] at c34
                   omega)
        · refine V_aload_n dX8_keepsSeat_37 rfl ?_
          refine V_iload_n dX8_keepsSeat_38 rfl ?_
          refine V_puti 8 20 dX8_keepsSeat_39 (Or.inl lkX8_213) rfl rfl rfl rfl ⟨by omega, by omega⟩ ?_
          refine V_aload_n dX8_keepsSeat_42 rfl ?_
          refine V_iload_n dX8_keepsSeat_43 rfl ?_
          refine V_puti 8 21 dX8_keepsSeat_44 (Or.inl lkX8_216) rfl rfl rfl rfl ⟨by omega, by omega⟩ ?_
          refine V_iconst (v := 0) dX8_keepsSeat_47 rfl ?_
          refine V_istore_n (L' := [_, _, _, _]) dX8_keepsSeat_48 (by decide) rfl rfl ?_
          refine loop N 0 _ _ _ hwv (by omega) (by decide) ((Off.rf.up (Or.inr ⟨rfl, by omega, by omega⟩)).up (Or.inr ⟨rfl, by omega, by omega⟩)) ?_ (by rw [up2_keep (by decide), up2_s]) (by rw [up2_s]) (fun q hq => absurd hq (Nat.not_lt_zero q))
          cases st with
          | none => rfl
          | some b =>
            obtain ⟨g1, g2, g3⟩ := hBS
            refine upB_yes ?_
            unfold btr
            show (cCost sort N A (fun p k => if sort = 2 then B p k else 0) f) < b.1 ∨ (cCost sort N A (fun p k => if sort = 2 then B p k else 0) f) = b.1 ∧ hv < b.2.1
            first
              | (exfalso
                 rw [c10] at g1
                 simp only [Int32.reduceToInt] at g1
                 omega)
              | (rw [Int32.lt_iff_toInt_lt, hwv, g2] at c18
                 omega)
              | (rw [← Int32.toInt_inj, hwv, g2] at c26
                 rw [Int32.le_iff_toInt_le, hy, g1] at c34
                 omega)
