def offVm (a : Nat) : Nat → Nat → Prop := fun b k => (b = 173 ∧ 5 ≤ k ∧ k ≤ 9) ∨ (b = 174 ∧ (k = 13 ∨ k = 17 ∨ k = 18 ∨ k = 223 + a ∨ k = 228 + a ∨ k = 233 + a ∨ (238 + 140 * a ≤ k ∧ k < 378 + 140 * a)))
theorem offRc_m {a : Nat} {mi mj : MI} (h : Off (offRc a) mi mj) : Off (offVm a) mi mj := h.mono (fun b k q => by unfold offRc offPm at q; unfold offVm; omega)
def VilM (S : Nat → Int32) (c : CT) (mi mi' : MI) : Prop :=
  (¬ S 13 < 5 ∧ mi' = mi) ∨ (S 13 < 5 ∧ Off (offVm (cL c)) mi mi' ∧ mi' 174 17 = 0 ∧ match (vilS S c).2 with
    | none => mi' 174 13 = S 13 ∧ mi' 174 18 = S 18
    | some cs => RS mi' (cL c) cs ∧ mi' 174 13 = S 13 + 1 ∧ mi' 174 18 = S 13)
theorem RS.off {mi mj : MI} {a : Nat} {cs : List CL} (h : RS mi a cs) (ho : ∀ k, 200 ≤ k → mj 174 k = mi 174 k) : RS mj a cs := by
  obtain ⟨h1, h2, h3⟩ := h
  refine ⟨?_, ?_, ?_⟩
  · unfold WR
    rw [ho _ (by omega)]
    exact ⟨h1.1, fun j hj => by rw [ho _ (by omega)]; exact h1.2 j hj⟩
  · rw [ho _ (by omega)]; exact h2
  · rw [ho _ (by omega)]; exact h3
theorem refK_len : ∀ {cs : List CL}, (refK cs).length ≤ (flatK cs).length + cs.length
  | [] => Nat.le_refl _
  | c :: cs => by
    have ih := refK_len (cs := cs)
    show (refC c ++ refK cs).length ≤ (c.2.2 ++ flatK cs).length + (cs.length + 1)
    rw [List.length_append, List.length_append]
    have h : (refC c).length ≤ c.2.2.length + 1 := by
      unfold refC
      split
      · rw [List.length_append, List.length_map, List.length_singleton]
        exact Nat.le_refl _
      · exact Nat.zero_le _
    omega
set_option maxRecDepth 4000 in
theorem qX8_village (n : Nat) (mi : MI) (mr : MR) (c : CT) (hR : RF mr) (hn : 186 ≤ n) (hBD : BD (mi 174) c) : Ct KX8_village 32 0 0 [.ref 173] n mi mr (fun r n' mi' mr' => r = some (.int (sVil (mi 174) c)) ∧ n = n' ∧ mr = mr' ∧ VilM (mi 174) c mi mi') := by
  refine Ct.of2 [some (.ref 173), none] (by decide +kernel) (Nat.le_of_ble_eq_true rfl) rfl ?_
  obtain ⟨⟨hN, hN6⟩, ⟨hW, hW5⟩, ⟨hL, hL5⟩, ⟨hT, hT100⟩, ⟨hS, hS5⟩, ⟨hP, hP8⟩, ⟨hBk, hB8⟩⟩ := hBD.1
  by_cases hful : mi 174 13 < 5
  case neg =>
    have h5 : mi 174 13 = 5 := by
      rw [lt_nat hL (y := 5) (b := 5) rfl] at hful
      exact (eq_nat hL (y := 5) (b := 5) rfl).mpr (by omega)
    refine V_aload_n dX8_village_0 rfl ?_
    refine V_getr (b := 174) 8 1 dX8_village_1 (Or.inl lkX8_9) rfl rfl ⟨by omega, by omega⟩ (hR _ _ _ rfl) ?_
    refine V_bipush (v := 13) dX8_village_4 rfl ?_
    refine V_iald (len := 938) 13 dX8_village_6 rfl ⟨by omega, by omega⟩ (by decide) (by omega) ?_
    refine V_iconst (v := 5) dX8_village_7 rfl ?_
    refine V_icmp_ne (tgt := 14) dX8_village_8 (by decide) (fun c8 => absurd h5 c8) (fun c8 => ?_)
    refine V_bipush (v := -4) dX8_village_11 rfl ?_
    refine V_iret dX8_village_13 rfl rfl ?_
    exact ⟨(congrArg (fun z => some (Value.int z)) (sVil_f hful)).symm, rfl, rfl, Or.inl ⟨hful, rfl⟩⟩
  case pos =>
    have ha5 : cL c < 5 := lt_of5 hL hful
    have hne : ¬ mi 174 13 = 5 := fun h => absurd ((eq_nat hL (y := 5) (b := 5) rfl).mp h) (by omega)
    have h151 : ∀ (mj : MI) (u : Option Value) (q : Nat) (o : Option (List CL)), Off (offVm (cL c)) mi mj → mj 174 17 = 0 → mj 174 13 = mi 174 13 → mj 174 18 = mi 174 18 → mj 173 6 = nI q → q ≤ cT c → mj 173 5 = nI (cL c) → (mj 173 7).toInt = (cT c : Int) → vilS (mi 174) c = (q, o) → (o = none → ¬ mj 173 8 = 0 ∨ ¬ q = cT c) → (∀ cs, o = some cs → mj 173 8 = 0 ∧ q = cT c ∧ RS mj (cL c) cs) → V KX8_village 32 0 0 (fun r n' mi' mr' => r = some (.int (sVil (mi 174) c)) ∧ n = n' ∧ mr = mr' ∧ VilM (mi 174) c mi mi') 151 [some (.ref 173), u] [] n mj mr := by
      intro mj u q o hoj h17 h13 h18 h6 hqE h5 h7 hv hno hso
      have hqi : (mj 173 6).toInt = (q : Int) := by rw [h6]; exact nI_toInt (by omega)
      have h13i : (mj 174 13).toInt = ((cL c : Nat) : Int) := by rw [h13]; exact hL
      refine V_aload_n dX8_village_151 rfl ?_
      refine V_geti 8 8 dX8_village_152 (Or.inl lkX8_63) rfl rfl ⟨by omega, by omega⟩ ?_
      refine V_if_ne (tgt := 169) dX8_village_155 (by decide) (fun c155 => ?_) (fun c155 => ?_)
      · refine V_bipush (v := -10) dX8_village_169 rfl ?_
        refine V_aload_n dX8_village_171 rfl ?_
        refine V_geti 8 6 dX8_village_172 (Or.inl lkX8_57) rfl rfl ⟨by omega, by omega⟩ ?_
        refine V_isub dX8_village_175 ?_
        refine V_iret dX8_village_176 rfl rfl ?_
        have ho : o = none := by
          cases o with
          | none => rfl
          | some cs =>
            obtain ⟨g1, g2, g3⟩ := hso cs rfl
            first
              | exact absurd g1 c155
              | exact absurd ((eq_nat hqi h7).mpr g2) c166
        subst ho
        refine ⟨?_, rfl, rfl, Or.inr ⟨hful, hoj, h17, ?_⟩⟩
        · rw [sVil_n hful (by rw [hv]), hv, h6]
        · rw [hv]
          exact ⟨h13, h18⟩
      · refine V_aload_n dX8_village_158 rfl ?_
        refine V_geti 8 6 dX8_village_159 (Or.inl lkX8_57) rfl rfl ⟨by omega, by omega⟩ ?_
        refine V_aload_n dX8_village_162 rfl ?_
        refine V_geti 8 7 dX8_village_163 (Or.inl lkX8_60) rfl rfl ⟨by omega, by omega⟩ ?_
        refine V_icmp_eq (tgt := 177) dX8_village_166 (by decide) (fun c166 => ?_) (fun c166 => ?_)
        · refine V_aload_n dX8_village_177 rfl ?_
          refine V_getr (b := 174) 8 1 dX8_village_178 (Or.inl lkX8_9) rfl rfl ⟨by omega, by omega⟩ (hR _ _ _ rfl) ?_
          refine V_bipush (v := 13) dX8_village_181 rfl ?_
          refine V_dup2 dX8_village_183 rfl rfl ?_
          refine V_iald (len := 938) 13 dX8_village_184 rfl ⟨by omega, by omega⟩ (by decide) (by omega) ?_
          rw [h13]
          refine V_iconst (v := 1) dX8_village_185 rfl ?_
          refine V_iadd dX8_village_186 ?_
          refine V_iast (len := 938) 13 dX8_village_187 rfl ⟨by omega, by omega⟩ (by decide) (by omega) ?_
          refine V_aload_n dX8_village_188 rfl ?_
          refine V_getr (b := 174) 8 1 dX8_village_189 (Or.inl lkX8_9) rfl rfl ⟨by omega, by omega⟩ (hR _ _ _ rfl) ?_
          refine V_bipush (v := 18) dX8_village_192 rfl ?_
          refine V_aload_n dX8_village_194 rfl ?_
          refine V_geti 8 5 dX8_village_195 (Or.inl lkX8_84) rfl rfl ⟨by omega, by omega⟩ ?_
          refine V_iast (len := 938) 18 dX8_village_198 rfl ⟨by omega, by omega⟩ (by decide) (by omega) ?_
          refine V_aload_n dX8_village_199 rfl ?_
          refine V_geti 8 5 dX8_village_200 (Or.inl lkX8_84) rfl rfl ⟨by omega, by omega⟩ ?_
          refine V_iret dX8_village_203 rfl rfl ?_
          obtain ⟨cs, ho⟩ : ∃ cs, o = some cs := by
            cases o with
            | some cs => exact ⟨cs, rfl⟩
            | none => exact absurd (hno rfl) (fun h => h.elim (fun g => g c155) (fun g => g ((eq_nat hqi h7).mp c166)))
          obtain ⟨g1, g2, g3⟩ := hso cs ho
          subst ho
          refine ⟨?_, rfl, rfl, Or.inr ⟨hful, ?_, ?_, ?_⟩⟩
          · rw [sVil_s hful (by rw [hv]), up2_row (by decide), up2_row (by decide), h5, nI_of_toInt hL]
          · exact (hoj.up (Or.inr ⟨rfl, Or.inl rfl⟩)).up (Or.inr ⟨rfl, by omega⟩)
          · rw [up2_k (by decide), up2_k (by decide)]
            exact h17
          · rw [hv]
            refine ⟨g3.off (fun k hk => by rw [up2_k (by omega), up2_k (by omega)]), ?_, ?_⟩
            · rw [up2_k (by decide), up2_s]
            · rw [up2_s, up2_row (by decide), h5, nI_of_toInt hL]
        · refine V_bipush (v := -10) dX8_village_169 rfl ?_
          refine V_aload_n dX8_village_171 rfl ?_
          refine V_geti 8 6 dX8_village_172 (Or.inl lkX8_57) rfl rfl ⟨by omega, by omega⟩ ?_
          refine V_isub dX8_village_175 ?_
          refine V_iret dX8_village_176 rfl rfl ?_
          have ho : o = none := by
            cases o with
            | none => rfl
            | some cs =>
              obtain ⟨g1, g2, g3⟩ := hso cs rfl
              first
                | exact absurd g1 c155
                | exact absurd ((eq_nat hqi h7).mpr g2) c166
          subst ho
          refine ⟨?_, rfl, rfl, Or.inr ⟨hful, hoj, h17, ?_⟩⟩
          · rw [sVil_n hful (by rw [hv]), hv, h6]
          · rw [hv]
            exact ⟨h13, h18⟩
    have loop : ∀ (k p : Nat) (cs : List CL) (mj : MI) (u : Int32), cs.length + 1 + k = 10 → p ≤ cT c → u.toInt = ((cs.length + 1 : Nat) : Int) → goodV p cs → Off (offVm (cL c)) mi mj → mj 174 17 = 0 → mj 174 13 = mi 174 13 → mj 174 18 = mi 174 18 → mj 173 6 = nI (pCla (tpe (mi 174)) (cT c) p).1 → mj 173 9 = nI 0 → MdS mj (cL c) (tpe (mi 174)) (cT c) (pCla (tpe (mi 174)) (cT c) p).1 → (match (pCla (tpe (mi 174)) (cT c) p).2 with | none => mj 173 8 = 1 | some d => mj 173 8 = 0 ∧ RS mj (cL c) (cs ++ [d])) → vilS (mi 174) c = vilL (tpe (mi 174)) (cT c) (k + 1) cs p → V KX8_village 32 0 0 (fun r n' mi' mr' => r = some (.int (sVil (mi 174) c)) ∧ n = n' ∧ mr = mr' ∧ VilM (mi 174) c mi mi') 109 [some (.ref 173), some (.int u)] [] n mj mr := by
      intro k
      induction k with
      | zero =>
        intro p cs mj u hck hpE hu hgo hoj h17 h13 h18 h6 h9 hSj hres hR9
        have hg0 := pCla_ok (T := tpe (mi 174)) hpE
        have he9 : vilL (tpe (mi 174)) (cT c) (0 + 1) cs p = bindP (pCla (tpe (mi 174)) (cT c) p) (fun q d => if q = cT c then (q, some (cs ++ [d])) else if 0 = 0 ∨ ¬ tk (tpe (mi 174)) (cT c) q = 59 then (q, none) else vilL (tpe (mi 174)) (cT c) 0 (cs ++ [d]) (q + 1)) := rfl
        cases hr9 : pCla (tpe (mi 174)) (cT c) p with
        | mk q o9 =>
          rw [hr9] at hg0 h6 hSj hres he9
          have hqE : q ≤ cT c := hg0.1.2
          cases o9 with
          | none =>
            have hres : mj 173 8 = 1 := hres
            refine V_aload_n dX8_village_109 rfl ?_
            refine V_geti 8 8 dX8_village_110 (Or.inl lkX8_63) rfl rfl ⟨by omega, by omega⟩ ?_
            refine V_if_ne (tgt := 151) dX8_village_113 (by decide) (fun c113 => ?_) (fun c113 => absurd (hres.symm.trans c113) (by decide))
            exact h151 mj _ q none hoj h17 h13 h18 h6 hqE hSj.1 hSj.2.1 (hR9.trans he9) (fun _ => Or.inl (fun h => absurd (hres.symm.trans h) (by decide))) (fun cs h => by cases h)
          | some d =>
            obtain ⟨hres8, hs⟩ := hres
            have hgc := hgo.snoc (hg0.2 d rfl)
            have he9 : vilL (tpe (mi 174)) (cT c) (0 + 1) cs p = if q = cT c then (q, some (cs ++ [d])) else if 0 = 0 ∨ ¬ tk (tpe (mi 174)) (cT c) q = 59 then (q, none) else vilL (tpe (mi 174)) (cT c) 0 (cs ++ [d]) (q + 1) := he9
            have hout : 0 = 0 ∨ ¬ tk (tpe (mi 174)) (cT c) q = 59 → V KX8_village 32 0 0 (fun r n' mi' mr' => r = some (.int (sVil (mi 174) c)) ∧ n = n' ∧ mr = mr' ∧ VilM (mi 174) c mi mi') 151 [some (.ref 173), some (.int u)] [] n mj mr := fun hx => by
              by_cases hq : q = cT c
              · rw [if_pos hq] at he9
                exact h151 mj _ q (some (cs ++ [d])) hoj h17 h13 h18 h6 hqE hSj.1 hSj.2.1 (hR9.trans he9) (fun h => by cases h) (fun cs2 h => by cases h; exact ⟨hres8, hq, hs⟩)
              · rw [if_neg hq, if_pos hx] at he9
                exact h151 mj _ q none hoj h17 h13 h18 h6 hqE hSj.1 hSj.2.1 (hR9.trans he9) (fun _ => Or.inr hq) (fun cs h => by cases h)
            refine V_aload_n dX8_village_109 rfl ?_
            refine V_geti 8 8 dX8_village_110 (Or.inl lkX8_63) rfl rfl ⟨by omega, by omega⟩ ?_
            refine V_if_ne (tgt := 151) dX8_village_113 (by decide) (fun c113 => absurd hres8 c113) (fun c113 => ?_)
            refine V_iload_n dX8_village_116 rfl ?_
            refine V_bipush (v := 10) dX8_village_117 rfl ?_
            refine V_icmp_ge (tgt := 151) dX8_village_119 (by decide) (fun c119 => ?_) (fun c119 => absurd ((le_nat (x := 10) (a := 10) rfl hu).mpr (by omega)) c119)
            exact hout (Or.inl rfl)
      | succ k ih =>
        intro p cs mj u hck hpE hu hgo hoj h17 h13 h18 h6 h9 hSj hres hR9
        have hg0 := pCla_ok (T := tpe (mi 174)) hpE
        have he9 : vilL (tpe (mi 174)) (cT c) ((k + 1) + 1) cs p = bindP (pCla (tpe (mi 174)) (cT c) p) (fun q d => if q = cT c then (q, some (cs ++ [d])) else if (k + 1) = 0 ∨ ¬ tk (tpe (mi 174)) (cT c) q = 59 then (q, none) else vilL (tpe (mi 174)) (cT c) (k + 1) (cs ++ [d]) (q + 1)) := rfl
        cases hr9 : pCla (tpe (mi 174)) (cT c) p with
        | mk q o9 =>
          rw [hr9] at hg0 h6 hSj hres he9
          have hqE : q ≤ cT c := hg0.1.2
          cases o9 with
          | none =>
            have hres : mj 173 8 = 1 := hres
            refine V_aload_n dX8_village_109 rfl ?_
            refine V_geti 8 8 dX8_village_110 (Or.inl lkX8_63) rfl rfl ⟨by omega, by omega⟩ ?_
            refine V_if_ne (tgt := 151) dX8_village_113 (by decide) (fun c113 => ?_) (fun c113 => absurd (hres.symm.trans c113) (by decide))
            exact h151 mj _ q none hoj h17 h13 h18 h6 hqE hSj.1 hSj.2.1 (hR9.trans he9) (fun _ => Or.inl (fun h => absurd (hres.symm.trans h) (by decide))) (fun cs h => by cases h)
          | some d =>
            obtain ⟨hres8, hs⟩ := hres
            have hgc := hgo.snoc (hg0.2 d rfl)
            have he9 : vilL (tpe (mi 174)) (cT c) ((k + 1) + 1) cs p = if q = cT c then (q, some (cs ++ [d])) else if (k + 1) = 0 ∨ ¬ tk (tpe (mi 174)) (cT c) q = 59 then (q, none) else vilL (tpe (mi 174)) (cT c) (k + 1) (cs ++ [d]) (q + 1) := he9
            have hout : (k + 1) = 0 ∨ ¬ tk (tpe (mi 174)) (cT c) q = 59 → V KX8_village 32 0 0 (fun r n' mi' mr' => r = some (.int (sVil (mi 174) c)) ∧ n = n' ∧ mr = mr' ∧ VilM (mi 174) c mi mi') 151 [some (.ref 173), some (.int u)] [] n mj mr := fun hx => by
              by_cases hq : q = cT c
              · rw [if_pos hq] at he9
                exact h151 mj _ q (some (cs ++ [d])) hoj h17 h13 h18 h6 hqE hSj.1 hSj.2.1 (hR9.trans he9) (fun h => by cases h) (fun cs2 h => by cases h; exact ⟨hres8, hq, hs⟩)
              · rw [if_neg hq, if_pos hx] at he9
                exact h151 mj _ q none hoj h17 h13 h18 h6 hqE hSj.1 hSj.2.1 (hR9.trans he9) (fun _ => Or.inr hq) (fun cs h => by cases h)
            refine V_aload_n dX8_village_109 rfl ?_
            refine V_geti 8 8 dX8_village_110 (Or.inl lkX8_63) rfl rfl ⟨by omega, by omega⟩ ?_
            refine V_if_ne (tgt := 151) dX8_village_113 (by decide) (fun c113 => absurd hres8 c113) (fun c113 => ?_)
            refine V_iload_n dX8_village_116 rfl ?_
            refine V_bipush (v := 10) dX8_village_117 rfl ?_
            refine V_icmp_ge (tgt := 151) dX8_village_119 (by decide) (fun c119 => absurd ((le_nat (x := 10) (a := 10) rfl hu).mp c119) (by omega)) (fun c119 => ?_)
            refine V_aload_n dX8_village_122 rfl ?_
            refine V_callV (ci := 8) (qX8_here n mr hR hn (cL c) ha5 (tpe (mi 174)) (cT c) hT100 mj q hqE hSj) dX8_village_123 mlX8_67 mtX8_here ivX8_here rfl rfl ⟨by omega, by omega⟩ (by decide) rfl rfl (by decide) (Nat.le_of_ble_eq_true rfl) rfl rfl ?_
            rintro _ _ _ _ ⟨rfl, rfl, rfl, rfl⟩
            refine V_bipush (v := 59) dX8_village_126 rfl ?_
            refine V_icmp_ne (tgt := 151) dX8_village_128 (by decide) (fun c128 => ?_) (fun c128 => ?_)
            · exact hout (Or.inr c128)
            · have h59 : tk (tpe (mi 174)) (cT c) q = 59 := c128
              have hq1E := tk_is h59 (by decide)
              have hqn : ¬ q = cT c := by omega
              rw [if_neg hqn, if_neg (fun h => h.elim (Nat.succ_ne_zero k) (fun g => g h59))] at he9
              refine V_aload_n dX8_village_131 rfl ?_
              refine V_dup dX8_village_132 rfl ?_
              refine V_geti 8 6 dX8_village_133 (Or.inl lkX8_57) rfl rfl ⟨by omega, by omega⟩ ?_
              refine V_iconst (v := 1) dX8_village_136 rfl ?_
              refine V_iadd dX8_village_137 ?_
              rw [h6, nI_p1]
              refine V_puti 8 6 dX8_village_138 (Or.inl lkX8_57) rfl rfl rfl rfl ⟨by omega, by omega⟩ ?_
              rw [wp_6 hres8]
              refine V_aload_n dX8_village_141 rfl ?_
              refine V_callV (ci := 8) (qX8_clauseHere n mr hR hn (cL c) ha5 (tpe (mi 174)) (cT c) hT100 _ (q + 1) (by omega) hSj.go setWP_8 (by rw [setWP_k (by decide)]; exact h9) (cs ++ [d]) (hs.off (fun k _ => by rw [setWP_row (by decide)])) (by have := refK_len (cs := cs ++ [d]); have := hgc.1; omega)) dX8_village_142 mlX8_132 mtX8_clauseHere ivX8_clauseHere rfl rfl ⟨by omega, by omega⟩ (by decide) rfl rfl (by decide) (Nat.le_of_ble_eq_true rfl) rfl rfl ?_
              rintro _ _ m1 _ ⟨rfl, rfl, rfl, ho1, hq1, h9n, hres1⟩
              refine V_iinc (v := _ + (1)) (L' := [_, _]) dX8_village_145 (by decide) rfl rfl rfl rfl ?_
              refine V_goto (tgt := 109) dX8_village_148 (by decide) ?_
              have hoj1 : Off (offVm (cL c)) mj (setWP mj 0 (q + 1)) := offRc_m (offPm_c wp_off)
              have hom : Off (offVm (cL c)) mi m1 := (hoj.tr hoj1).tr (offRc_m ho1)
              have hlow : ∀ k, k < 223 → m1 174 k = mj 174 k := fun k hk => by rw [ho1 174 k (by unfold offRc offPm; omega), setWP_row (by decide)]
              refine ih (q + 1) (cs ++ [d]) m1 _ (by rw [List.length_append, List.length_singleton]; omega) (by omega) (by rw [List.length_append, List.length_singleton]; exact ix_add hu (by decide) (by omega)) (hgc.mono (Nat.le_succ q)) hom (by rw [hlow 17 (by decide)]; exact h17) (by rw [hlow 13 (by decide)]; exact h13) (by rw [hlow 18 (by decide)]; exact h18) hq1 (by rw [h9n, setWP_k (by decide)]; exact h9) ?_ hres1 (hR9.trans he9)
              refine ⟨by rw [ho1 173 5 (by unfold offRc offPm; omega), setWP_k (by decide)]; exact hSj.1, by rw [ho1 173 7 (by unfold offRc offPm; omega), setWP_k (by decide)]; exact hSj.2.1, hq1, fun j hj => by rw [hlow (123 + j) (by omega)]; exact hSj.2.2.2 j hj⟩
    have h105 : V KX8_village 32 0 0 (fun r n' mi' mr' => r = some (.int (sVil (mi 174) c)) ∧ n = n' ∧ mr = mr' ∧ VilM (mi 174) c mi mi') 105 [some (.ref 173), some (.int 1)] [] n (up2 (up2 (up2 (up2 (up2 (up2 (up2 (up2 (up2 mi 173 5 (mi 174 13)) 173 7 (mi 174 17)) 174 17 0) 174 (223 + cL c) 18) 174 (228 + cL c) 60) 174 (233 + cL c) 0) 173 6 0) 173 8 0) 173 9 0) mr := by
      have hom : Off (offVm (cL c)) mi (up2 (up2 (up2 (up2 (up2 (up2 (up2 (up2 (up2 mi 173 5 (mi 174 13)) 173 7 (mi 174 17)) 174 17 0) 174 (223 + cL c) 18) 174 (228 + cL c) 60) 174 (233 + cL c) 0) 173 6 0) 173 8 0) 173 9 0) := fun b k h => by
        unfold offVm at h
        rw [up2_keep (by omega), up2_keep (by omega), up2_keep (by omega), up2_keep (by omega), up2_keep (by omega), up2_keep (by omega), up2_keep (by omega), up2_keep (by omega), up2_keep (by omega)]
      have g174 : ∀ k, (up2 (up2 (up2 (up2 (up2 (up2 (up2 (up2 (up2 mi 173 5 (mi 174 13)) 173 7 (mi 174 17)) 174 17 0) 174 (223 + cL c) 18) 174 (228 + cL c) 60) 174 (233 + cL c) 0) 173 6 0) 173 8 0) 173 9 0) 174 k = up2 (up2 (up2 (up2 mi 174 17 0) 174 (223 + cL c) 18) 174 (228 + cL c) 60) 174 (233 + cL c) 0 174 k := fun k => by
        simp only [up2]
        repeat' split
        all_goals first | rfl | (exfalso; omega)
      have hSt0 : MdS (up2 (up2 (up2 (up2 (up2 (up2 (up2 (up2 (up2 mi 173 5 (mi 174 13)) 173 7 (mi 174 17)) 174 17 0) 174 (223 + cL c) 18) 174 (228 + cL c) 60) 174 (233 + cL c) 0) 173 6 0) 173 8 0) 173 9 0) (cL c) (tpe (mi 174)) (cT c) 0 := by
        refine ⟨?_, ?_, ?_, fun j hj => ?_⟩
        · rw [up2_k (by decide), up2_k (by decide), up2_k (by decide), up2_row (by decide), up2_row (by decide), up2_row (by decide), up2_row (by decide), up2_k (by decide), up2_s]
          exact nI_of_toInt hL
        · rw [up2_k (by decide), up2_k (by decide), up2_k (by decide), up2_row (by decide), up2_row (by decide), up2_row (by decide), up2_row (by decide), up2_s]
          exact hT
        · rw [up2_k (by decide), up2_k (by decide), up2_s]
          rfl
        · rw [g174, up2_k (by omega), up2_k (by omega), up2_k (by omega), up2_k (by omega)]
          rfl
      have h80 : (up2 (up2 (up2 (up2 (up2 (up2 (up2 (up2 (up2 mi 173 5 (mi 174 13)) 173 7 (mi 174 17)) 174 17 0) 174 (223 + cL c) 18) 174 (228 + cL c) 60) 174 (233 + cL c) 0) 173 6 0) 173 8 0) 173 9 0) 173 8 = 0 := by rw [up2_k (by decide), up2_s]
      have h90 : (up2 (up2 (up2 (up2 (up2 (up2 (up2 (up2 (up2 mi 173 5 (mi 174 13)) 173 7 (mi 174 17)) 174 17 0) 174 (223 + cL c) 18) 174 (228 + cL c) 60) 174 (233 + cL c) 0) 173 6 0) 173 8 0) 173 9 0) 173 9 = nI 0 := up2_s
      have hRS0 : RS (up2 (up2 (up2 (up2 (up2 (up2 (up2 (up2 (up2 mi 173 5 (mi 174 13)) 173 7 (mi 174 17)) 174 17 0) 174 (223 + cL c) 18) 174 (228 + cL c) 60) 174 (233 + cL c) 0) 173 6 0) 173 8 0) 173 9 0) (cL c) [] := by
        refine ⟨⟨?_, fun j hj => absurd hj (Nat.not_lt_zero j)⟩, ?_, ?_⟩
        · rw [g174, up2_s]; rfl
        · rw [g174, up2_k (by omega), up2_k (by omega), up2_s]; rfl
        · rw [g174, up2_k (by omega), up2_s]; rfl
      have l17 : (up2 (up2 (up2 (up2 (up2 (up2 (up2 (up2 (up2 mi 173 5 (mi 174 13)) 173 7 (mi 174 17)) 174 17 0) 174 (223 + cL c) 18) 174 (228 + cL c) 60) 174 (233 + cL c) 0) 173 6 0) 173 8 0) 173 9 0) 174 17 = 0 := by rw [g174, up2_k (by omega), up2_k (by omega), up2_k (by omega), up2_s]
      have l13 : (up2 (up2 (up2 (up2 (up2 (up2 (up2 (up2 (up2 mi 173 5 (mi 174 13)) 173 7 (mi 174 17)) 174 17 0) 174 (223 + cL c) 18) 174 (228 + cL c) 60) 174 (233 + cL c) 0) 173 6 0) 173 8 0) 173 9 0) 174 13 = mi 174 13 := by rw [g174, up2_k (by omega), up2_k (by omega), up2_k (by omega), up2_k (by omega)]
      have l18 : (up2 (up2 (up2 (up2 (up2 (up2 (up2 (up2 (up2 mi 173 5 (mi 174 13)) 173 7 (mi 174 17)) 174 17 0) 174 (223 + cL c) 18) 174 (228 + cL c) 60) 174 (233 + cL c) 0) 173 6 0) 173 8 0) 173 9 0) 174 18 = mi 174 18 := by rw [g174, up2_k (by omega), up2_k (by omega), up2_k (by omega), up2_k (by omega)]
      generalize (up2 (up2 (up2 (up2 (up2 (up2 (up2 (up2 (up2 mi 173 5 (mi 174 13)) 173 7 (mi 174 17)) 174 17 0) 174 (223 + cL c) 18) 174 (228 + cL c) 60) 174 (233 + cL c) 0) 173 6 0) 173 8 0) 173 9 0) = m7 at hom hSt0 h80 h90 hRS0 l17 l13 l18 ⊢
      refine V_aload_n dX8_village_105 rfl ?_
      refine V_callV (ci := 8) (qX8_clauseHere n mr hR hn (cL c) ha5 (tpe (mi 174)) (cT c) hT100 m7 0 (Nat.zero_le _) hSt0 h80 h90 [] hRS0 (Nat.zero_le _)) dX8_village_106 mlX8_132 mtX8_clauseHere ivX8_clauseHere rfl rfl ⟨by omega, by omega⟩ (by decide) rfl rfl (by decide) (Nat.le_of_ble_eq_true rfl) rfl rfl ?_
      rintro _ _ m1 _ ⟨rfl, rfl, rfl, ho1, hq1, h9n, hres1⟩
      have hlow : ∀ k, k < 223 → m1 174 k = m7 174 k := fun k hk => ho1 174 k (by unfold offRc offPm; omega)
      refine loop 9 0 [] m1 _ rfl (Nat.zero_le _) rfl goodV_nil (hom.tr (offRc_m ho1)) (by rw [hlow 17 (by decide)]; exact l17) (by rw [hlow 13 (by decide)]; exact l13) (by rw [hlow 18 (by decide)]; exact l18) hq1 (by rw [h9n]; exact h90) ?_ hres1 rfl
      exact ⟨by rw [ho1 173 5 (by unfold offRc offPm; omega)]; exact hSt0.1, by rw [ho1 173 7 (by unfold offRc offPm; omega)]; exact hSt0.2.1, hq1, fun j hj => by rw [hlow (123 + j) (by omega)]; exact hSt0.2.2.2 j hj⟩
    refine V_aload_n dX8_village_0 rfl ?_
    refine V_getr (b := 174) 8 1 dX8_village_1 (Or.inl lkX8_9) rfl rfl ⟨by omega, by omega⟩ (hR _ _ _ rfl) ?_
    refine V_bipush (v := 13) dX8_village_4 rfl ?_
    refine V_iald (len := 938) 13 dX8_village_6 rfl ⟨by omega, by omega⟩ (by decide) (by omega) ?_
    refine V_iconst (v := 5) dX8_village_7 rfl ?_
    refine V_icmp_ne (tgt := 14) dX8_village_8 (by decide) (fun c8 => ?_) (fun c8 => absurd c8 hne)
    refine V_aload_n dX8_village_14 rfl ?_
    refine V_aload_n dX8_village_15 rfl ?_
    refine V_getr (b := 174) 8 1 dX8_village_16 (Or.inl lkX8_9) rfl rfl ⟨by omega, by omega⟩ (hR _ _ _ rfl) ?_
    refine V_bipush (v := 13) dX8_village_19 rfl ?_
    refine V_iald (len := 938) 13 dX8_village_21 rfl ⟨by omega, by omega⟩ (by decide) (by omega) ?_
    refine V_puti 8 5 dX8_village_22 (Or.inl lkX8_84) rfl rfl rfl rfl ⟨by omega, by omega⟩ ?_
    refine V_aload_n dX8_village_25 rfl ?_
    refine V_aload_n dX8_village_26 rfl ?_
    refine V_getr (b := 174) 8 1 dX8_village_27 (Or.inl lkX8_9) rfl rfl ⟨by omega, by omega⟩ (hR _ _ _ rfl) ?_
    refine V_bipush (v := 17) dX8_village_30 rfl ?_
    refine V_iald (len := 938) 17 dX8_village_32 rfl ⟨by omega, by omega⟩ (by decide) (by omega) ?_
    rw [up2_row (by decide)]
    refine V_puti 8 7 dX8_village_33 (Or.inl lkX8_60) rfl rfl rfl rfl ⟨by omega, by omega⟩ ?_
    refine V_aload_n dX8_village_36 rfl ?_
    refine V_getr (b := 174) 8 1 dX8_village_37 (Or.inl lkX8_9) rfl rfl ⟨by omega, by omega⟩ (hR _ _ _ rfl) ?_
    refine V_bipush (v := 17) dX8_village_40 rfl ?_
    refine V_iconst (v := 0) dX8_village_42 rfl ?_
    refine V_iast (len := 938) 17 dX8_village_43 rfl ⟨by omega, by omega⟩ (by decide) (by omega) ?_
    refine V_aload_n dX8_village_44 rfl ?_
    refine V_getr (b := 174) 8 1 dX8_village_45 (Or.inl lkX8_9) rfl rfl ⟨by omega, by omega⟩ (hR _ _ _ rfl) ?_
    refine V_sipush (v := 223) dX8_village_48 rfl ?_
    refine V_aload_n dX8_village_51 rfl ?_
    refine V_geti 8 5 dX8_village_52 (Or.inl lkX8_84) rfl rfl ⟨by omega, by omega⟩ ?_
    refine V_iadd dX8_village_55 ?_
    refine V_bipush (v := 18) dX8_village_56 rfl ?_
    refine V_iast (len := 938) (223 + cL c) dX8_village_58 rfl ⟨by omega, by omega⟩ (ix_add (a := 223) rfl (by rw [up2_row (by decide)]; rw [up2_k (by decide), up2_s]; exact hL) (by omega)) (by omega) ?_
    refine V_aload_n dX8_village_59 rfl ?_
    refine V_getr (b := 174) 8 1 dX8_village_60 (Or.inl lkX8_9) rfl rfl ⟨by omega, by omega⟩ (hR _ _ _ rfl) ?_
    refine V_sipush (v := 228) dX8_village_63 rfl ?_
    refine V_aload_n dX8_village_66 rfl ?_
    refine V_geti 8 5 dX8_village_67 (Or.inl lkX8_84) rfl rfl ⟨by omega, by omega⟩ ?_
    refine V_iadd dX8_village_70 ?_
    refine V_bipush (v := 60) dX8_village_71 rfl ?_
    refine V_iast (len := 938) (228 + cL c) dX8_village_73 rfl ⟨by omega, by omega⟩ (ix_add (a := 228) rfl (by rw [up2_row (by decide)]; rw [up2_row (by decide)]; rw [up2_k (by decide), up2_s]; exact hL) (by omega)) (by omega) ?_
    refine V_aload_n dX8_village_74 rfl ?_
    refine V_getr (b := 174) 8 1 dX8_village_75 (Or.inl lkX8_9) rfl rfl ⟨by omega, by omega⟩ (hR _ _ _ rfl) ?_
    refine V_sipush (v := 233) dX8_village_78 rfl ?_
    refine V_aload_n dX8_village_81 rfl ?_
    refine V_geti 8 5 dX8_village_82 (Or.inl lkX8_84) rfl rfl ⟨by omega, by omega⟩ ?_
    refine V_iadd dX8_village_85 ?_
    refine V_iconst (v := 0) dX8_village_86 rfl ?_
    refine V_iast (len := 938) (233 + cL c) dX8_village_87 rfl ⟨by omega, by omega⟩ (ix_add (a := 233) rfl (by rw [up2_row (by decide)]; rw [up2_row (by decide)]; rw [up2_row (by decide)]; rw [up2_k (by decide), up2_s]; exact hL) (by omega)) (by omega) ?_
    refine V_aload_n dX8_village_88 rfl ?_
    refine V_iconst (v := 0) dX8_village_89 rfl ?_
    refine V_puti 8 6 dX8_village_90 (Or.inl lkX8_57) rfl rfl rfl rfl ⟨by omega, by omega⟩ ?_
    refine V_aload_n dX8_village_93 rfl ?_
    refine V_iconst (v := 0) dX8_village_94 rfl ?_
    refine V_puti 8 8 dX8_village_95 (Or.inl lkX8_63) rfl rfl rfl rfl ⟨by omega, by omega⟩ ?_
    refine V_aload_n dX8_village_98 rfl ?_
    refine V_iconst (v := 0) dX8_village_99 rfl ?_
    refine V_puti 8 9 dX8_village_100 (Or.inl lkX8_87) rfl rfl rfl rfl ⟨by omega, by omega⟩ ?_
    refine V_iconst (v := 1) dX8_village_103 rfl ?_
    refine V_istore_n (L' := [_, _]) dX8_village_104 (by decide) rfl rfl ?_
    exact h105
