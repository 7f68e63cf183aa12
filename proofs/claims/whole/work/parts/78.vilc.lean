def tpe (S : Nat → Int32) : Nat → Int32 := fun j => S (123 + j)
/-- how the tape of S is read -/
def vilS (S : Nat → Int32) (c : CT) : Nat × Option (List CL) := pVil (tpe S) (cT c)
def sVil (S : Nat → Int32) (c : CT) : Int32 := if S 13 < 5 then (match (vilS S c).2 with | none => -10 - nI (vilS S c).1 | some _ => S 13) else -4
theorem sVil_f {S : Nat → Int32} {c : CT} (h : ¬ S 13 < 5) : sVil S c = -4 := if_neg h
theorem sVil_n {S : Nat → Int32} {c : CT} (h : S 13 < 5) (e : (vilS S c).2 = none) : sVil S c = -10 - nI (vilS S c).1 := by
  unfold sVil
  rw [if_pos h, e]
theorem sVil_s {S : Nat → Int32} {c : CT} {cs : List CL} (h : S 13 < 5) (e : (vilS S c).2 = some cs) : sVil S c = S 13 := by
  unfold sVil
  rw [if_pos h, e]
def offVil (n va : Nat) : Nat → Nat → Prop := fun a k => a = n ∨ (va ≤ a ∧ a ≤ va + 3) ∨ (a = 40 ∧ (k = 3 ∨ k = 4))
def VilR (o : Option (List CL)) (S : Nat → Int32) (c : CT) (mi' : MI) (mr mr' : MR) : Prop := match o with
  | none => mi' 40 3 = S 13 ∧ ∀ a k, a < 186 → mr' a k = mr a k
  | some cs => VS mi' (153 + 4 * cL c) cs ∧ mi' 40 3 = S 13 + 1 ∧ mr' 40 5 = some (153 + 4 * cL c) ∧ ∀ a k, a < 186 → ¬ (a = 40 ∧ k = 5) → mr' a k = mr a k
def VilC (S : Nat → Int32) (c : CT) (n : Nat) (mi : MI) (mr : MR) (n' : Nat) (mi' : MI) (mr' : MR) : Prop :=
  (¬ S 13 < 5 ∧ n' = n ∧ mi' = mi ∧ mr' = mr) ∨ (S 13 < 5 ∧ n' = n + 1 ∧ RF mr' ∧ Off (offVil n (153 + 4 * cL c)) mi mi' ∧ mi' 40 4 = 0 ∧ VilR (vilS S c).2 S c mi' mr mr')
theorem tpe_ch {S : Nat → Int32} {c : CT} (hB : BD S c) : ∀ j, j < cT c → 0 ≤ tpe S j ∧ tpe S j ≤ 127 := fun j hj => by
  obtain ⟨k, k1, k2⟩ := hB.2.2.2.2.2.2.2.2 j hj
  unfold tpe
  rw [Int32.le_iff_toInt_le, Int32.le_iff_toInt_le, k1]
  simp only [Int32.reduceToInt]
  omega
set_option maxRecDepth 4000 in
theorem qX7_village (n : Nat) (mi : MI) (mr : MR) (c : CT) (I : INV n mi mr c) : Ct KX7_village 22 1 4 [.ref 32] n mi mr (fun r n' mi' mr' => r = some (.int (sVil (mi 174) c)) ∧ VilC (mi 174) c n mi mr n' mi' mr') := by
  refine Ct.of2 [some (.ref 32), none, none, none] (by decide +kernel) (Nat.le_of_ble_eq_true rfl) rfl ?_
  obtain ⟨hR, hn, ⟨⟨hN, hN6⟩, ⟨hW, hW5⟩, ⟨hL, hL5⟩, ⟨hT, hT100⟩, ⟨hS, hS5⟩, ⟨hP, hP8⟩, ⟨hBk, hB8⟩⟩, hrw⟩ := I.facts
  have hBD := I.2.2.1
  obtain ⟨⟨r1, r2, r3, r4, r5⟩, hper, hvin, htape, hseen, hnight, hbook⟩ := id hrw
  have hcN : nat (mi 40 1) (cN c) := by rw [r2]; exact hN
  have hcW : nat (mi 40 2) (cW c) := by rw [r3]; exact hW
  have hL40 : (mi 40 3).toInt = ((cL c : Nat) : Int) := by rw [r4]; exact hL
  have hTT := tpe_ch hBD
  refine V_aload_n dX7_village_0 rfl ?_
  refine V_getr (b := 40) 7 1 dX7_village_1 (Or.inl lkX7_30) rfl rfl ⟨by omega, by omega⟩ (hR _ _ _ rfl) ?_
  refine V_geti 6 3 dX7_village_4 lnX7_57 rfl rfl ⟨by omega, by omega⟩ ?_
  rw [r4]
  refine V_iconst (v := 5) dX7_village_7 rfl ?_
  refine V_icmp_lt (tgt := 14) dX7_village_8 (by decide) (fun c8 => ?_) (fun c8 => ?_)
  · have hlt : cL c < 5 := lt_of5 hL c8
    have hva : isV (153 + 4 * cL c) := vOf hlt
    have hge := hva.ge
    have hle := hva.le2
    refine V_aload_n dX7_village_14 rfl ?_
    refine V_getr (b := 33) 7 0 dX7_village_15 (Or.inl lkX7_13) rfl rfl ⟨by omega, by omega⟩ (hR _ _ _ rfl) ?_
    refine V_aload_n dX7_village_18 rfl ?_
    refine V_getr (b := 40) 7 1 dX7_village_19 (Or.inl lkX7_30) rfl rfl ⟨by omega, by omega⟩ (hR _ _ _ rfl) ?_
    refine V_geti 6 3 dX7_village_22 lnX7_57 rfl rfl ⟨by omega, by omega⟩ ?_
    refine V_aald (len := 5) (b := (153 + 4 * (cL c))) 4 (cL c) dX7_village_25 rfl rfl ⟨by omega, by omega⟩ hL40 hlt (hR _ _ _ (rSlots hlt)) ?_
    refine V_astore_n (L' := [_, _, _, _]) dX7_village_26 (by decide) rfl rfl ?_
    refine V_new (ci := 2) (cl' := 0) (sl' := 0) dX7_village_27 (sRd hn) (by decide) clX7_59 insX2 iniX2 rfl rfl ?_
    have hR1 := hR.mr0 hn
    have e0 : ∀ {a : Nat}, a < 186 → mi0 mi n a = mi a := fun h => mi0_a (by omega)
    refine V_dup dX7_village_30 rfl ?_
    refine V_aload_n dX7_village_31 rfl ?_
    refine V_getr (b := 40) 7 1 dX7_village_32 (Or.inl lkX7_30) rfl rfl ⟨by omega, by omega⟩ (hR1 _ _ _ rfl) ?_
    refine V_getr (b := 44) 6 9 dX7_village_35 lnX7_53 rfl rfl ⟨by omega, by omega⟩ (hR1 _ _ _ rfl) ?_
    refine V_aload_n dX7_village_38 rfl ?_
    refine V_getr (b := 40) 7 1 dX7_village_39 (Or.inl lkX7_30) rfl rfl ⟨by omega, by omega⟩ (hR1 _ _ _ rfl) ?_
    refine V_geti 6 4 dX7_village_42 lnX7_49 rfl rfl ⟨by omega, by omega⟩ ?_
    rw [e0 (by decide)]
    refine V_aload_n dX7_village_45 rfl ?_
    refine V_callI (qX2_init (n + 1) (mi0 mi n) (mr0 mr n) hR1 (by omega) n (153 + 4 * cL c) hn (by omega) hva (mi 40 4)) dX7_village_46 mlX7_61 mtX2_init imX2_init ⟨rfl, rfl⟩ rfl rfl (by decide) (Nat.le_of_ble_eq_true rfl) rfl rfl ?_
    rintro _ _ _ _ ⟨rfl, rfl, rfl, rfl⟩
    have hR2 : RF (up2 (up2 (mr0 mr n) n 0 (some 44)) n 2 (some (153 + 4 * cL c))) := (hR1.up2 (RT_hi hn)).up2 (RT_hi hn)
    have hm0 : (up2 (up2 (mr0 mr n) n 0 (some 44)) n 2 (some (153 + 4 * cL c))) n 0 = some 44 := by rw [up2_k (by decide), up2_s]
    have hm2 : (up2 (up2 (mr0 mr n) n 0 (some 44)) n 2 (some (153 + 4 * cL c))) n 2 = some (153 + 4 * cL c) := up2_s
    have hm9 : ∀ a k, a < 186 → (up2 (up2 (mr0 mr n) n 0 (some 44)) n 2 (some (153 + 4 * cL c))) a k = mr a k := fun a k h => by
      rw [up2_a (by omega), up2_a (by omega), mr0_a (by omega)]
    have hSt : RdS (up2 (mi0 mi n) n 1 (mi 40 4)) n (tpe (mi 174)) (cT c) 0 := by
      refine ⟨?_, ?_, fun j hj => ?_⟩
      · rw [up2_s, r5]; exact hT
      · rw [up2_k (by decide), mi0_s]; rfl
      · rw [up2_row (by omega), e0 (by decide)]; exact htape j hj
    refine V_astore_n (L' := [_, _, _, _]) dX7_village_49 (by decide) rfl rfl ?_
    refine V_aload_n dX7_village_50 rfl ?_
    refine V_callV (ci := 2) (qX2_readVillage (n + 1) (up2 (up2 (mr0 mr n) n 0 (some 44)) n 2 (some (153 + 4 * cL c))) hR2 (by omega) n (153 + 4 * cL c) hn (by omega) hm0 hm2 hva (tpe (mi 174)) (cT c) hT100 hTT (up2 (mi0 mi n) n 1 (mi 40 4)) hSt) dX7_village_51 mlX7_64 mtX2_readVillage ivX2_readVillage rfl (sRd hn) ⟨by omega, by omega⟩ (by decide) rfl rfl (by decide) (Nat.le_of_ble_eq_true rfl) rfl rfl ?_
    rintro ro _ m1 _ ⟨rfl, rfl, ho1, hq1, hres⟩
    have hov : Off (offVil n (153 + 4 * cL c)) mi m1 := fun a k h => by
      unfold offVil at h
      rw [ho1 a k (by unfold offK; omega), up2_a (by omega), mi0_a (by omega)]
    have hpv : pVil (tpe (mi 174)) (cT c) = vilS (mi 174) c := rfl
    rw [hpv] at hq1 hres
    cases hv9 : (vilS (mi 174) c).2 with
    | none =>
      rw [hv9] at hres
      have hres : ro = some (.int 0) := hres
      subst hres
      refine V_istore_n (L' := [_, _, _, _]) dX7_village_54 (by decide) rfl rfl ?_
      refine V_aload_n dX7_village_55 rfl ?_
      refine V_getr (b := 40) 7 1 dX7_village_56 (Or.inl lkX7_30) rfl rfl ⟨by omega, by omega⟩ (hR2 _ _ _ rfl) ?_
      refine V_iconst (v := 0) dX7_village_59 rfl ?_
      refine V_puti 6 4 dX7_village_60 lnX7_49 rfl rfl rfl rfl ⟨by omega, by omega⟩ ?_
      refine V_iload_n dX7_village_63 rfl ?_
      refine V_if_ne (tgt := 75) dX7_village_64 (by decide) (fun c64 => absurd rfl c64) (fun c64 => ?_)
      refine V_bipush (v := -10) dX7_village_67 rfl ?_
      refine V_aload_n dX7_village_69 rfl ?_
      refine V_geti 2 3 dX7_village_70 lnX7_68 rfl (sRd hn) ⟨by omega, by omega⟩ ?_
      rw [up2_row (by omega), hq1]
      refine V_isub dX7_village_73 ?_
      refine V_iret dX7_village_74 rfl rfl ?_
      refine ⟨?_, Or.inr ⟨c8, rfl, hR2, ?_, ?_, ?_⟩⟩
      · rw [sVil_n c8 hv9]
      · exact hov.up (Or.inr (Or.inr ⟨rfl, Or.inr rfl⟩))
      · exact up2_s
      · rw [hv9]
        refine ⟨?_, hm9⟩
        rw [up2_k (by decide), ho1 40 3 (by unfold offK; omega), up2_a (by omega), mi0_a (by omega), r4]
    | some cs =>
      rw [hv9] at hres
      obtain ⟨rfl, hs⟩ := hres
      have e3 : m1 40 3 = mi 174 13 := by rw [ho1 40 3 (by unfold offK; omega), up2_a (by omega), mi0_a (by omega), r4]
      refine V_istore_n (L' := [_, _, _, _]) dX7_village_54 (by decide) rfl rfl ?_
      refine V_aload_n dX7_village_55 rfl ?_
      refine V_getr (b := 40) 7 1 dX7_village_56 (Or.inl lkX7_30) rfl rfl ⟨by omega, by omega⟩ (hR2 _ _ _ rfl) ?_
      refine V_iconst (v := 0) dX7_village_59 rfl ?_
      refine V_puti 6 4 dX7_village_60 lnX7_49 rfl rfl rfl rfl ⟨by omega, by omega⟩ ?_
      refine V_iload_n dX7_village_63 rfl ?_
      refine V_if_ne (tgt := 75) dX7_village_64 (by decide) (fun c64 => ?_) (fun c64 => absurd c64 (by decide))
      refine V_aload_n dX7_village_75 rfl ?_
      refine V_getr (b := 40) 7 1 dX7_village_76 (Or.inl lkX7_30) rfl rfl ⟨by omega, by omega⟩ (hR2 _ _ _ rfl) ?_
      refine V_aload_n dX7_village_79 rfl ?_
      refine V_putr 6 5 dX7_village_80 lnX7_71 rfl rfl ⟨by omega, by omega⟩ ?_
      have hR3 : RF (up2 (up2 (up2 (mr0 mr n) n 0 (some 44)) n 2 (some (153 + 4 * cL c))) 40 5 (some (153 + 4 * cL c))) := hR2.up2 (RTw5 (Or.inl rfl))
      refine V_aload_n dX7_village_83 rfl ?_
      refine V_getr (b := 40) 7 1 dX7_village_84 (Or.inl lkX7_30) rfl rfl ⟨by omega, by omega⟩ (hR3 _ _ _ rfl) ?_
      refine V_dup dX7_village_87 rfl ?_
      refine V_geti 6 3 dX7_village_88 lnX7_57 rfl rfl ⟨by omega, by omega⟩ ?_
      rw [up2_k (by decide), e3]
      refine V_dup_x1 dX7_village_91 rfl rfl ?_
      refine V_iconst (v := 1) dX7_village_92 rfl ?_
      refine V_iadd dX7_village_93 ?_
      refine V_puti 6 3 dX7_village_94 lnX7_57 rfl rfl rfl rfl ⟨by omega, by omega⟩ ?_
      refine V_iret dX7_village_97 rfl rfl ?_
      refine ⟨?_, Or.inr ⟨c8, rfl, hR3, ?_, ?_, ?_⟩⟩
      · rw [sVil_s c8 hv9]
      · exact (hov.up (Or.inr (Or.inr ⟨rfl, Or.inr rfl⟩))).up (Or.inr (Or.inr ⟨rfl, Or.inl rfl⟩))
      · rw [up2_k (by decide)]
        exact up2_s
      · rw [hv9]
        refine ⟨?_, up2_s, up2_s, fun a k h1 h2 => ?_⟩
        · refine hs.off (fun k hk => ?_) ?_ ?_ ?_
          · rw [up2_row (by omega), up2_row (by omega)]
          · rw [up2_row (by omega), up2_row (by omega)]
          · rw [up2_row (by omega), up2_row (by omega)]
          · have hw := hs.ws
            unfold WS at hw ⊢
            rw [up2_row (by omega), up2_row (by omega), up2_row (by omega), up2_row (by omega)]
            exact hw
        · rw [show up2 (up2 (up2 (mr0 mr n) n 0 (some 44)) n 2 (some (153 + 4 * cL c))) 40 5 (some (153 + 4 * cL c)) a k = (up2 (up2 (mr0 mr n) n 0 (some 44)) n 2 (some (153 + 4 * cL c))) a k from if_neg h2]
          exact hm9 a k h1
  · refine V_bipush (v := -4) dX7_village_11 rfl ?_
    refine V_iret dX7_village_13 rfl rfl ?_
    exact ⟨(congrArg (fun z => some (Value.int z)) (sVil_f c8)).symm, Or.inl ⟨c8, rfl, rfl, rfl⟩⟩
