theorem getD_app1 {a : List CL} {c : CL} {k : Nat} (h : k < a.length) : (a ++ [c]).getD k nC = a.getD k nC := by
  rw [List.getD_eq_getElem?_getD, List.getD_eq_getElem?_getD, List.getElem?_append_left h]
theorem getD_app2 {a : List CL} {c : CL} : (a ++ [c]).getD a.length nC = c := by
  rw [List.getD_eq_getElem?_getD, List.getElem?_append_right (Nat.le_refl _), Nat.sub_self]
  rfl
theorem endK_app1 {a : List CL} {c : CL} {k : Nat} (h : k < a.length) : endK (a ++ [c]) k = endK a k := by
  unfold endK
  rw [List.take_append_of_le_length (by omega)]
theorem endK_app2 {a : List CL} {c : CL} : endK (a ++ [c]) a.length = (flatK a ++ c.2.2).length := by
  unfold endK
  rw [List.take_of_length_le (by rw [List.length_append, List.length_singleton]; exact Nat.le_refl _), flatK_app]
/-- grown, or old -/
theorem VS.num {mi : MI} {va v tag : Nat} {cs : List CL} (h : VS mi va cs) (ht : tag < 2) : VS (up2 mi va tag (nI v)) va (cs ++ [(tag, v, [])]) := by
  obtain ⟨h1, h2, h3, h4, h5⟩ := h
  have hk : kN (cs ++ [(tag, v, [])]) = kN cs := by
    rw [kN_app, if_neg (by show ¬ 2 ≤ tag; omega)]
  refine ⟨?_, ?_, fun k hk2 => ?_, ?_, ?_⟩
  · rw [flatK_app]
    refine ⟨?_, fun j hj => ?_⟩
    · rw [up2_k (by omega), show flatK cs ++ ((tag, v, []) : CL).2.2 = flatK cs from List.append_nil _]
      exact h1.1
    · rw [show flatK cs ++ ((tag, v, []) : CL).2.2 = flatK cs from List.append_nil _] at hj ⊢
      rw [up2_row (by omega)]
      exact h1.2 j hj
  · rw [hk, up2_k (by omega)]
    exact h2
  · rw [hk] at hk2 ⊢
    rw [up2_row (by omega), up2_row (by omega)]
    exact h3 k hk2
  · rw [grownL_app]
    by_cases e : tag = 0
    · rw [if_pos (show ((tag, v, []) : CL).1 = 0 from e), e, up2_s]
    · rw [if_neg (show ¬ ((tag, v, []) : CL).1 = 0 from e), up2_k (fun q => e q.symm)]
      exact h4
  · rw [oldL_app]
    by_cases e : tag = 1
    · rw [if_pos (show ((tag, v, []) : CL).1 = 1 from e), e, up2_s]
    · rw [if_neg (show ¬ ((tag, v, []) : CL).1 = 1 from e), up2_k (fun q => e q.symm)]
      exact h5
/-- bold, or meek -/
theorem VS.nerve {mi m2 : MI} {rd va : Nat} {cs : List CL} {c : CL} (h : VS mi va cs) (hva : isV va) (hrd : 186 ≤ rd) (ho : Off (offV rd va) mi m2) (hw : WS m2 va (flatK cs ++ c.2.2)) (hc : 2 ≤ c.1) (h0 : ∀ c, c ∈ cs → c.1 < 2 → c.2.2 = []) : VS (up2 (up2 (up2 m2 (va + 2) (kN cs).length (valC c)) (va + 3) (kN cs).length (m2 va 3)) va 2 (nI ((kN cs).length + 1))) va (cs ++ [c]) := by
  obtain ⟨e0, e2, e3⟩ := VS.exp hva hrd ho
  obtain ⟨h1, h2, h3, h4, h5⟩ := h
  have hk : kN (cs ++ [c]) = kN cs ++ [c] := by rw [kN_app, if_pos hc]
  refine ⟨?_, ?_, fun k hk2 => ?_, ?_, ?_⟩
  · rw [flatK_app]
    refine ⟨?_, fun j hj => ?_⟩
    · rw [up2_k (by decide), up2_row (by omega), up2_row (by omega)]
      exact hw.1
    · rw [up2_row (by omega), up2_row (by omega), up2_row (by omega)]
      exact hw.2 j hj
  · rw [up2_s, hk, List.length_append, List.length_singleton]
  · rw [hk] at hk2 ⊢
    rw [List.length_append, List.length_singleton] at hk2
    rw [up2_row (b := va + 2) (by omega), up2_row (b := va + 2) (by omega), up2_row (b := va + 3) (by omega)]
    by_cases e : k = (kN cs).length
    · rw [e, up2_s, up2_s, getD_app2, endK_app2, flatK_kN h0]
      exact ⟨rfl, hw.1⟩
    · rw [up2_k e, up2_k e, up2_row (by omega), getD_app1 (by omega), endK_app1 (by omega), e2, e3]
      exact h3 k (by omega)
  · rw [up2_k (by decide), up2_row (by omega), up2_row (by omega), grownL_app, if_neg (by omega), e0 0 (by decide)]
    exact h4
  · rw [up2_k (by decide), up2_row (by omega), up2_row (by omega), oldL_app, if_neg (by omega), e0 1 (by decide)]
    exact h5
theorem goK_off {mi : MI} {rd va : Nat} {x : Int32} : Off (offK rd va) mi (up2 mi rd 3 x) := Off.rf.up (Or.inl ⟨rfl, rfl⟩)
theorem VS.go {mi : MI} {rd va : Nat} {cs : List CL} {x : Int32} (h : VS mi va cs) (hrd : 186 ≤ rd) (hva : isV va) : VS (up2 mi rd 3 x) va cs := by
  have := hva.ge
  exact h.off (fun k _ => by rw [up2_row (by omega)]) (by rw [up2_row (by omega)]) (by rw [up2_row (by omega)]) (h.ws.go hrd hva)
theorem val_b {v : Nat} : (1 : Int32) * nI v = nI v ∧ (-1 : Int32) * nI v = -nI v := ⟨Int32.one_mul _, by rw [Int32.neg_mul, Int32.one_mul]⟩
set_option maxRecDepth 4000 in
theorem qX2_readClause (n : Nat) (mr : MR) (hR : RF mr) (hn : 186 ≤ n) (rd va : Nat) (hrd : 186 ≤ rd) (hrdn : rd < n) (hrd0 : mr rd 0 = some 44) (hrd2 : mr rd 2 = some va) (hva : isV va) (T : Nat → Int32) (E : Nat) (hE : E ≤ 100) (hT : ∀ j, j < E → 0 ≤ T j ∧ T j ≤ 127) (mi : MI) (p : Nat) (cs : List CL) (hp : p ≤ E) (hSt : RdS mi rd T E p) (hVS : VS mi va cs) (hWp : (flatK cs).length ≤ p) (hc9 : cs.length < 10) (hc0 : ∀ c, c ∈ cs → c.1 < 2 → c.2.2 = []) : Ct KX2_readClause 20 0 0 [.ref rd] n mi mr (PostK (pCla T E p) n mi mr rd va cs) := by
  refine Ct.of2 [some (.ref rd), none, none] (by decide +kernel) (Nat.le_of_ble_eq_true rfl) rfl ?_
  have hge := hva.ge
  have hle := hva.le
  have hcl : pCla T E p = if tk T E p = 103 then litN T E 0 0 (p + 1) else if tk T E p = 111 then litN T E 1 1 (p + 1) else if tk T E p = 98 then litE T E 2 2 (p + 1) else litE T E 3 3 p := rfl
  refine V_aload_n dX2_readClause_0 rfl ?_
  refine V_bipush (v := 103) dX2_readClause_1 rfl ?_
  refine V_callV (ci := 2) (qX2_takes n mr hR hn rd va hrd hrdn hrd0 hrd2 hva T E hE hT mi p hp hSt 103 (by decide)) dX2_readClause_3 mlX2_35 mtX2_takes ivX2_takes rfl (sRd hrd) ⟨by omega, by omega⟩ (by decide) rfl rfl (by decide) (Nat.le_of_ble_eq_true rfl) rfl rfl ?_
  rintro _ _ _ _ ⟨rfl, rfl, rfl, rfl⟩
  refine V_if_eq (tgt := 50) dX2_readClause_6 (by decide) (fun c6 => ?_) (fun c6 => ?_)
  · have e1 : ¬ tk T E p = 103 := b01_0.mp c6
    rw [if_neg e1] at hcl
    rw [if_neg e1, up2_id hSt.2.1]
    refine V_aload_n dX2_readClause_50 rfl ?_
    refine V_bipush (v := 111) dX2_readClause_51 rfl ?_
    refine V_callV (ci := 2) (qX2_takes n mr hR hn rd va hrd hrdn hrd0 hrd2 hva T E hE hT mi p hp hSt 111 (by decide)) dX2_readClause_53 mlX2_35 mtX2_takes ivX2_takes rfl (sRd hrd) ⟨by omega, by omega⟩ (by decide) rfl rfl (by decide) (Nat.le_of_ble_eq_true rfl) rfl rfl ?_
    rintro _ _ _ _ ⟨rfl, rfl, rfl, rfl⟩
    refine V_if_eq (tgt := 100) dX2_readClause_56 (by decide) (fun c56 => ?_) (fun c56 => ?_)
    · have e2 : ¬ tk T E p = 111 := b01_0.mp c56
      rw [if_neg e2] at hcl
      rw [if_neg e2, up2_id hSt.2.1]
      refine V_aload_n dX2_readClause_100 rfl ?_
      refine V_bipush (v := 98) dX2_readClause_101 rfl ?_
      refine V_callV (ci := 2) (qX2_takes n mr hR hn rd va hrd hrdn hrd0 hrd2 hva T E hE hT mi p hp hSt 98 (by decide)) dX2_readClause_103 mlX2_35 mtX2_takes ivX2_takes rfl (sRd hrd) ⟨by omega, by omega⟩ (by decide) rfl rfl (by decide) (Nat.le_of_ble_eq_true rfl) rfl rfl ?_
      rintro _ _ _ _ ⟨rfl, rfl, rfl, rfl⟩
      refine V_if_eq (tgt := 113) dX2_readClause_106 (by decide) (fun c106 => ?_) (fun c106 => ?_)
      · have e3 : ¬ tk T E p = 98 := b01_0.mp c106
        rw [if_neg e3] at hcl
        rw [if_neg e3, up2_id hSt.2.1]
        refine V_iconst (v := -1) dX2_readClause_113 rfl ?_
        refine V_istore_n (L' := [_, _, _]) dX2_readClause_114 (by decide) rfl rfl ?_
        have hlit := lit_ok (T := T) (E := E) (k := 3) (p := p) (by decide) hp
        have hcl : pCla T E p = if (pLit T E (xB 3) (xL 3) 0 p).2 = true then bindP (pNum T E (pLit T E (xB 3) (xL 3) 0 p).1) (fun q v => if tk T E q = 32 then bindP (som T E (fac T E 5) (q + 1)) (fun u l => (u, some (3, v, l))) else (q, none)) else ((pLit T E (xB 3) (xL 3) 0 p).1, none) := hcl
        refine V_aload_n dX2_readClause_115 rfl ?_
        refine V_iload_n dX2_readClause_116 rfl ?_
        refine V_if_le (tgt := 125) dX2_readClause_117 (by decide) (fun c117 => ?_) (fun c117 => absurd (by decide) c117)
        refine V_ldcs (k := 3) dX2_readClause_125 (fun _ _ h => h.2.2.2.1) (by decide) ?_
        refine V_callV (ci := 2) (qX2_takesAll n mr hR hn rd va hrd hrdn hrd0 hrd2 hva T E hE hT _ p hp hSt 3 (by decide)) dX2_readClause_127 mlX2_41 mtX2_takesAll ivX2_takesAll rfl (sRd hrd) ⟨by omega, by omega⟩ (by decide) rfl rfl (by decide) (Nat.le_of_ble_eq_true rfl) rfl rfl ?_
        rintro _ _ _ _ ⟨rfl, rfl, rfl, rfl⟩
        refine V_if_ne (tgt := 135) dX2_readClause_130 (by decide) (fun c130 => ?_) (fun c130 => ?_)
        · have ha := b01_n.mp c130
          rw [if_pos ha] at hcl
          have hnum := pNum_ok (T := T) (E := E) (p := (pLit T E (xB 3) (xL 3) 0 p).1) hlit.2.1
          refine V_aload_n dX2_readClause_135 rfl ?_
          refine V_callV (ci := 2) (qX2_readNumber n mr hR hn rd va hrd hrdn hrd0 hrd2 hva T E hE hT _ (pLit T E (xB 3) (xL 3) 0 p).1 hlit.2.1 (hSt.go hrd)) dX2_readClause_136 mlX2_45 mtX2_readNumber ivX2_readNumber rfl (sRd hrd) ⟨by omega, by omega⟩ (by decide) rfl rfl (by decide) (Nat.le_of_ble_eq_true rfl) rfl rfl ?_
          rintro _ _ _ _ ⟨rfl, rfl, rfl, rfl⟩
          rw [up2_up]
          refine V_istore_n (L' := [_, _, _]) dX2_readClause_139 (by decide) rfl rfl ?_
          cases hn9 : pNum T E (pLit T E (xB 3) (xL 3) 0 p).1 with
          | mk q o9 =>
            rw [hn9] at hnum hcl
            have hqE : q ≤ E := hnum.1.2
            cases o9 with
            | none =>
              refine V_iload_n dX2_readClause_140 rfl ?_
              refine V_iconst (v := -1) dX2_readClause_141 rfl ?_
              refine V_icmp_eq (tgt := 162) dX2_readClause_142 (by decide) (fun c142 => ?_) (fun c142 => absurd rfl c142)
              refine V_iconst (v := 0) dX2_readClause_162 rfl ?_
              refine V_iret dX2_readClause_163 rfl rfl ?_
              rw [hcl]
              exact ⟨rfl, rfl, goK_off, up2_s, rfl⟩
            | some v =>
              have hv := hnum.2 v rfl
              have hv1 : (pLit T E (xB 3) (xL 3) 0 p).1 + 1 ≤ q := hv.1
              have hv1 : p + 1 ≤ q := Nat.le_trans (Nat.succ_le_succ hlit.1) hv1
              have hSt2 := hSt.go hrd (q := q)
              have hcl : pCla T E p = if tk T E q = 32 then bindP (som T E (fac T E 5) (q + 1)) (fun u l => (u, some (3, v, l))) else (q, none) := hcl
              refine V_iload_n dX2_readClause_140 rfl ?_
              refine V_iconst (v := -1) dX2_readClause_141 rfl ?_
              refine V_icmp_eq (tgt := 162) dX2_readClause_142 (by decide) (fun c142 => absurd c142 (fun h => absurd ((numV_m1 (o := some v) (fun u hu => by cases hu; exact hv.2)).mp h) (fun h => by cases h))) (fun c142 => ?_)
              refine V_aload_n dX2_readClause_145 rfl ?_
              refine V_bipush (v := 32) dX2_readClause_146 rfl ?_
              refine V_callV (ci := 2) (qX2_takes n mr hR hn rd va hrd hrdn hrd0 hrd2 hva T E hE hT _ q hqE hSt2 32 (by decide)) dX2_readClause_148 mlX2_35 mtX2_takes ivX2_takes rfl (sRd hrd) ⟨by omega, by omega⟩ (by decide) rfl rfl (by decide) (Nat.le_of_ble_eq_true rfl) rfl rfl ?_
              rintro _ _ _ _ ⟨rfl, rfl, rfl, rfl⟩
              rw [up2_up]
              refine V_if_eq (tgt := 162) dX2_readClause_151 (by decide) (fun c151 => ?_) (fun c151 => ?_)
              · refine V_iconst (v := 0) dX2_readClause_162 rfl ?_
                refine V_iret dX2_readClause_163 rfl rfl ?_
                have e32 : ¬ tk T E q = 32 := b01_0.mp c151
                rw [if_neg e32] at hcl
                rw [hcl, if_neg e32]
                exact ⟨rfl, rfl, goK_off, up2_s, rfl⟩
              · have e32 : tk T E q = 32 := b01_n.mp c151
                have hqE1 := tk_is e32 (by decide)
                rw [if_pos e32] at hcl
                rw [if_pos e32]
                refine V_aload_n dX2_readClause_154 rfl ?_
                refine V_iconst (v := 0) dX2_readClause_155 rfl ?_
                refine V_callV (ci := 2) (qX2_readEither n mr hR hn rd va hrd hrdn hrd0 hrd2 hva T E hE hT 5 (by decide) (qX2_readFactor n mr hR hn rd va hrd hrdn hrd0 hrd2 hva T E hE hT 5 (by decide)) _ (q + 1) (flatK cs) 0 (by omega) (hSt.go hrd) (hVS.ws.go hrd hva) (by omega) (by decide)) dX2_readClause_156 mlX2_61 mtX2_readEither ivX2_readEither rfl (sRd hrd) ⟨by omega, by omega⟩ (by decide) rfl rfl (by decide) (Nat.le_of_ble_eq_true rfl) rfl rfl ?_
                rintro ro _ m1 _ ⟨rfl, rfl, ho1, hq1, hres⟩
                have hg0 := som_ok (T := T) (F := fac T E 5) (fun p hp => fac_ok (r := 5) hp) (p := q + 1) (by omega : q + 1 ≤ E)
                cases hr9 : som T E (fac T E 5) (q + 1) with
                | mk u o9 =>
                  rw [hr9] at hg0 hq1 hres hcl
                  have hcl := hcl
                  cases o9 with
                  | none =>
                    obtain ⟨rfl, hs⟩ := hres
                    refine V_if_ne (tgt := 164) dX2_readClause_159 (by decide) (fun c159 => absurd rfl c159) (fun c159 => ?_)
                    refine V_iconst (v := 0) dX2_readClause_162 rfl ?_
                    refine V_iret dX2_readClause_163 rfl rfl ?_
                    rw [hcl]
                    exact ⟨rfl, rfl, goK_off.tr (offV_K ho1), hq1, rfl⟩
                  | some l =>
                    obtain ⟨rfl, hs⟩ := hres
                    have hcl : pCla T E p = (u, some (3, v, l)) := hcl
                    have hkl := kN_len (cs := cs)
                    have hVS1 := hVS.go (x := nI (q + 1)) hrd hva
                    have hcc : m1 va 2 = nI (kN cs).length := by rw [(VS.exp hva hrd ho1).1 2 (by decide)]; exact hVS1.2.1
                    have hnew := hVS1.nerve (c := (3, v, l)) hva hrd ho1 hs (show 2 ≤ 3 by decide) hc0
                    refine V_if_ne (tgt := 164) dX2_readClause_159 (by decide) (fun c159 => ?_) (fun c159 => absurd c159 (by decide))
                    refine V_aload_n dX2_readClause_164 rfl ?_
                    refine V_getr (b := va) 2 2 dX2_readClause_165 (Or.inl lkX2_19) rfl (sRd hrd) ⟨by omega, by omega⟩ hrd2 ?_
                    refine V_iload_n dX2_readClause_168 rfl ?_
                    refine V_iload_n dX2_readClause_169 rfl ?_
                    refine V_imul dX2_readClause_170 ?_
                    refine V_callV (ci := 5) (qX5_endClause n _ mr hR hn va hva (kN cs).length (by omega) hcc _) dX2_readClause_171 mlX2_65 mtX5_endClause ivX5_endClause rfl (sV hva (o := 0) (by omega)) ⟨by omega, by omega⟩ (by decide) rfl rfl (by decide) (Nat.le_of_ble_eq_true rfl) rfl rfl ?_
                    rintro _ _ _ _ ⟨rfl, rfl, rfl, rfl⟩
                    refine V_iconst (v := 1) dX2_readClause_174 rfl ?_
                    refine V_iret dX2_readClause_175 rfl rfl ?_
                    rw [hcl]
                    refine ⟨rfl, rfl, (((goK_off.tr (offV_K ho1)).up (Or.inr ⟨by omega, by omega⟩)).up (Or.inr ⟨by omega, by omega⟩)).up (Or.inr ⟨by omega, by omega⟩), ?_, rfl, ?_⟩
                    · rw [up2_row (by omega), up2_row (by omega), up2_row (by omega)]
                      exact hq1
                    · rw [show -1 * numV (some v) = valC (3, v, l) from val_b.2]
                      exact hnew
        · refine V_iconst (v := 0) dX2_readClause_133 rfl ?_
          refine V_iret dX2_readClause_134 rfl rfl ?_
          have ha := b01_0.mp c130
          rw [if_neg ha] at hcl
          rw [hcl]
          exact ⟨rfl, rfl, goK_off, up2_s, rfl⟩
      · have e3 : tk T E p = 98 := b01_n.mp c106
        have hpE := tk_is e3 (by decide)
        rw [if_pos e3] at hcl
        rw [if_pos e3]
        refine V_iconst (v := 1) dX2_readClause_109 rfl ?_
        refine V_goto (tgt := 114) dX2_readClause_110 (by decide) ?_
        refine V_istore_n (L' := [_, _, _]) dX2_readClause_114 (by decide) rfl rfl ?_
        have hlit := lit_ok (T := T) (E := E) (k := 2) (p := (p + 1)) (by decide) (by omega)
        have hcl : pCla T E p = if (pLit T E (xB 2) (xL 2) 0 (p + 1)).2 = true then bindP (pNum T E (pLit T E (xB 2) (xL 2) 0 (p + 1)).1) (fun q v => if tk T E q = 32 then bindP (som T E (fac T E 5) (q + 1)) (fun u l => (u, some (2, v, l))) else (q, none)) else ((pLit T E (xB 2) (xL 2) 0 (p + 1)).1, none) := hcl
        refine V_aload_n dX2_readClause_115 rfl ?_
        refine V_iload_n dX2_readClause_116 rfl ?_
        refine V_if_le (tgt := 125) dX2_readClause_117 (by decide) (fun c117 => absurd c117 (by decide)) (fun c117 => ?_)
        refine V_ldcs (k := 2) dX2_readClause_120 (fun _ _ h => h.2.2.1) (by decide) ?_
        refine V_goto (tgt := 127) dX2_readClause_122 (by decide) ?_
        refine V_callV (ci := 2) (qX2_takesAll n mr hR hn rd va hrd hrdn hrd0 hrd2 hva T E hE hT _ (p + 1) (by omega) (hSt.go hrd) 2 (by decide)) dX2_readClause_127 mlX2_41 mtX2_takesAll ivX2_takesAll rfl (sRd hrd) ⟨by omega, by omega⟩ (by decide) rfl rfl (by decide) (Nat.le_of_ble_eq_true rfl) rfl rfl ?_
        rintro _ _ _ _ ⟨rfl, rfl, rfl, rfl⟩
        rw [up2_up]
        refine V_if_ne (tgt := 135) dX2_readClause_130 (by decide) (fun c130 => ?_) (fun c130 => ?_)
        · have ha := b01_n.mp c130
          rw [if_pos ha] at hcl
          have hnum := pNum_ok (T := T) (E := E) (p := (pLit T E (xB 2) (xL 2) 0 (p + 1)).1) hlit.2.1
          refine V_aload_n dX2_readClause_135 rfl ?_
          refine V_callV (ci := 2) (qX2_readNumber n mr hR hn rd va hrd hrdn hrd0 hrd2 hva T E hE hT _ (pLit T E (xB 2) (xL 2) 0 (p + 1)).1 hlit.2.1 (hSt.go hrd)) dX2_readClause_136 mlX2_45 mtX2_readNumber ivX2_readNumber rfl (sRd hrd) ⟨by omega, by omega⟩ (by decide) rfl rfl (by decide) (Nat.le_of_ble_eq_true rfl) rfl rfl ?_
          rintro _ _ _ _ ⟨rfl, rfl, rfl, rfl⟩
          rw [up2_up]
          refine V_istore_n (L' := [_, _, _]) dX2_readClause_139 (by decide) rfl rfl ?_
          cases hn9 : pNum T E (pLit T E (xB 2) (xL 2) 0 (p + 1)).1 with
          | mk q o9 =>
            rw [hn9] at hnum hcl
            have hqE : q ≤ E := hnum.1.2
            cases o9 with
            | none =>
              refine V_iload_n dX2_readClause_140 rfl ?_
              refine V_iconst (v := -1) dX2_readClause_141 rfl ?_
              refine V_icmp_eq (tgt := 162) dX2_readClause_142 (by decide) (fun c142 => ?_) (fun c142 => absurd rfl c142)
              refine V_iconst (v := 0) dX2_readClause_162 rfl ?_
              refine V_iret dX2_readClause_163 rfl rfl ?_
              rw [hcl]
              exact ⟨rfl, rfl, goK_off, up2_s, rfl⟩
            | some v =>
              have hv := hnum.2 v rfl
              have hv1 : (pLit T E (xB 2) (xL 2) 0 (p + 1)).1 + 1 ≤ q := hv.1
              have hv1 : (p + 1) + 1 ≤ q := Nat.le_trans (Nat.succ_le_succ hlit.1) hv1
              have hSt2 := hSt.go hrd (q := q)
              have hcl : pCla T E p = if tk T E q = 32 then bindP (som T E (fac T E 5) (q + 1)) (fun u l => (u, some (2, v, l))) else (q, none) := hcl
              refine V_iload_n dX2_readClause_140 rfl ?_
              refine V_iconst (v := -1) dX2_readClause_141 rfl ?_
              refine V_icmp_eq (tgt := 162) dX2_readClause_142 (by decide) (fun c142 => absurd c142 (fun h => absurd ((numV_m1 (o := some v) (fun u hu => by cases hu; exact hv.2)).mp h) (fun h => by cases h))) (fun c142 => ?_)
              refine V_aload_n dX2_readClause_145 rfl ?_
              refine V_bipush (v := 32) dX2_readClause_146 rfl ?_
              refine V_callV (ci := 2) (qX2_takes n mr hR hn rd va hrd hrdn hrd0 hrd2 hva T E hE hT _ q hqE hSt2 32 (by decide)) dX2_readClause_148 mlX2_35 mtX2_takes ivX2_takes rfl (sRd hrd) ⟨by omega, by omega⟩ (by decide) rfl rfl (by decide) (Nat.le_of_ble_eq_true rfl) rfl rfl ?_
              rintro _ _ _ _ ⟨rfl, rfl, rfl, rfl⟩
              rw [up2_up]
              refine V_if_eq (tgt := 162) dX2_readClause_151 (by decide) (fun c151 => ?_) (fun c151 => ?_)
              · refine V_iconst (v := 0) dX2_readClause_162 rfl ?_
                refine V_iret dX2_readClause_163 rfl rfl ?_
                have e32 : ¬ tk T E q = 32 := b01_0.mp c151
                rw [if_neg e32] at hcl
                rw [hcl, if_neg e32]
                exact ⟨rfl, rfl, goK_off, up2_s, rfl⟩
              · have e32 : tk T E q = 32 := b01_n.mp c151
                have hqE1 := tk_is e32 (by decide)
                rw [if_pos e32] at hcl
                rw [if_pos e32]
                refine V_aload_n dX2_readClause_154 rfl ?_
                refine V_iconst (v := 0) dX2_readClause_155 rfl ?_
                refine V_callV (ci := 2) (qX2_readEither n mr hR hn rd va hrd hrdn hrd0 hrd2 hva T E hE hT 5 (by decide) (qX2_readFactor n mr hR hn rd va hrd hrdn hrd0 hrd2 hva T E hE hT 5 (by decide)) _ (q + 1) (flatK cs) 0 (by omega) (hSt.go hrd) (hVS.ws.go hrd hva) (by omega) (by decide)) dX2_readClause_156 mlX2_61 mtX2_readEither ivX2_readEither rfl (sRd hrd) ⟨by omega, by omega⟩ (by decide) rfl rfl (by decide) (Nat.le_of_ble_eq_true rfl) rfl rfl ?_
                rintro ro _ m1 _ ⟨rfl, rfl, ho1, hq1, hres⟩
                have hg0 := som_ok (T := T) (F := fac T E 5) (fun p hp => fac_ok (r := 5) hp) (p := q + 1) (by omega : q + 1 ≤ E)
                cases hr9 : som T E (fac T E 5) (q + 1) with
                | mk u o9 =>
                  rw [hr9] at hg0 hq1 hres hcl
                  have hcl := hcl
                  cases o9 with
                  | none =>
                    obtain ⟨rfl, hs⟩ := hres
                    refine V_if_ne (tgt := 164) dX2_readClause_159 (by decide) (fun c159 => absurd rfl c159) (fun c159 => ?_)
                    refine V_iconst (v := 0) dX2_readClause_162 rfl ?_
                    refine V_iret dX2_readClause_163 rfl rfl ?_
                    rw [hcl]
                    exact ⟨rfl, rfl, goK_off.tr (offV_K ho1), hq1, rfl⟩
                  | some l =>
                    obtain ⟨rfl, hs⟩ := hres
                    have hcl : pCla T E p = (u, some (2, v, l)) := hcl
                    have hkl := kN_len (cs := cs)
                    have hVS1 := hVS.go (x := nI (q + 1)) hrd hva
                    have hcc : m1 va 2 = nI (kN cs).length := by rw [(VS.exp hva hrd ho1).1 2 (by decide)]; exact hVS1.2.1
                    have hnew := hVS1.nerve (c := (2, v, l)) hva hrd ho1 hs (show 2 ≤ 2 by decide) hc0
                    refine V_if_ne (tgt := 164) dX2_readClause_159 (by decide) (fun c159 => ?_) (fun c159 => absurd c159 (by decide))
                    refine V_aload_n dX2_readClause_164 rfl ?_
                    refine V_getr (b := va) 2 2 dX2_readClause_165 (Or.inl lkX2_19) rfl (sRd hrd) ⟨by omega, by omega⟩ hrd2 ?_
                    refine V_iload_n dX2_readClause_168 rfl ?_
                    refine V_iload_n dX2_readClause_169 rfl ?_
                    refine V_imul dX2_readClause_170 ?_
                    refine V_callV (ci := 5) (qX5_endClause n _ mr hR hn va hva (kN cs).length (by omega) hcc _) dX2_readClause_171 mlX2_65 mtX5_endClause ivX5_endClause rfl (sV hva (o := 0) (by omega)) ⟨by omega, by omega⟩ (by decide) rfl rfl (by decide) (Nat.le_of_ble_eq_true rfl) rfl rfl ?_
                    rintro _ _ _ _ ⟨rfl, rfl, rfl, rfl⟩
                    refine V_iconst (v := 1) dX2_readClause_174 rfl ?_
                    refine V_iret dX2_readClause_175 rfl rfl ?_
                    rw [hcl]
                    refine ⟨rfl, rfl, (((goK_off.tr (offV_K ho1)).up (Or.inr ⟨by omega, by omega⟩)).up (Or.inr ⟨by omega, by omega⟩)).up (Or.inr ⟨by omega, by omega⟩), ?_, rfl, ?_⟩
                    · rw [up2_row (by omega), up2_row (by omega), up2_row (by omega)]
                      exact hq1
                    · rw [show 1 * numV (some v) = valC (2, v, l) from val_b.1]
                      exact hnew
        · refine V_iconst (v := 0) dX2_readClause_133 rfl ?_
          refine V_iret dX2_readClause_134 rfl rfl ?_
          have ha := b01_0.mp c130
          rw [if_neg ha] at hcl
          rw [hcl]
          exact ⟨rfl, rfl, goK_off, up2_s, rfl⟩
    · have e2 : tk T E p = 111 := b01_n.mp c56
      have hpE := tk_is e2 (by decide)
      rw [if_pos e2] at hcl
      rw [if_pos e2]
      refine V_aload_n dX2_readClause_59 rfl ?_
      refine V_getr (b := va) 2 2 dX2_readClause_60 (Or.inl lkX2_19) rfl (sRd hrd) ⟨by omega, by omega⟩ hrd2 ?_
      refine V_aload_n dX2_readClause_63 rfl ?_
      refine V_ldcs (k := 1) dX2_readClause_64 (fun _ _ h => h.2.1) (by decide) ?_
      refine V_callV (ci := 2) (qX2_takesAll n mr hR hn rd va hrd hrdn hrd0 hrd2 hva T E hE hT _ (p + 1) (by omega) (hSt.go hrd) 1 (by decide)) dX2_readClause_66 mlX2_41 mtX2_takesAll ivX2_takesAll rfl (sRd hrd) ⟨by omega, by omega⟩ (by decide) rfl rfl (by decide) (Nat.le_of_ble_eq_true rfl) rfl rfl ?_
      rintro _ _ _ _ ⟨rfl, rfl, rfl, rfl⟩
      rw [up2_up]
      have hlit := lit_ok (T := T) (E := E) (k := 1) (p := p + 1) (by decide) (by omega)
      have hcl : pCla T E p = if (pLit T E (xB 1) (xL 1) 0 (p + 1)).2 = true then bindP (pNum T E (pLit T E (xB 1) (xL 1) 0 (p + 1)).1) (fun q v => (q, some (1, v, []))) else ((pLit T E (xB 1) (xL 1) 0 (p + 1)).1, none) := hcl
      refine V_if_eq (tgt := 79) dX2_readClause_69 (by decide) (fun c69 => ?_) (fun c69 => ?_)
      · refine V_iconst (v := -1) dX2_readClause_79 rfl ?_
        refine V_puti 5 1 dX2_readClause_80 lnX2_54 rfl rfl rfl (sV hva (o := 0) (by omega)) ⟨by omega, by omega⟩ ?_
        refine V_aload_n dX2_readClause_83 rfl ?_
        refine V_getr (b := va) 2 2 dX2_readClause_84 (Or.inl lkX2_19) rfl (sRd hrd) ⟨by omega, by omega⟩ hrd2 ?_
        refine V_geti 5 1 dX2_readClause_87 lnX2_54 rfl (sV hva (o := 0) (by omega)) ⟨by omega, by omega⟩ ?_
        refine V_iconst (v := -1) dX2_readClause_90 rfl ?_
        refine V_icmp_eq (tgt := 98) dX2_readClause_91 (by decide) (fun c91 => ?_) (fun c91 => absurd up2_s c91)
        refine V_iconst (v := 0) dX2_readClause_98 rfl ?_
        refine V_iret dX2_readClause_99 rfl rfl ?_
        have ha := b01_0.mp c69
        rw [if_neg ha] at hcl
        rw [hcl]
        exact ⟨rfl, rfl, goK_off.up (Or.inr ⟨by omega, by omega⟩), by rw [up2_row (by omega)]; exact up2_s, rfl⟩
      · have ha := b01_n.mp c69
        rw [if_pos ha] at hcl
        have hnum := pNum_ok (T := T) (E := E) (p := (pLit T E (xB 1) (xL 1) 0 (p + 1)).1) hlit.2.1
        refine V_aload_n dX2_readClause_72 rfl ?_
        refine V_callV (ci := 2) (qX2_readNumber n mr hR hn rd va hrd hrdn hrd0 hrd2 hva T E hE hT _ (pLit T E (xB 1) (xL 1) 0 (p + 1)).1 hlit.2.1 (hSt.go hrd)) dX2_readClause_73 mlX2_45 mtX2_readNumber ivX2_readNumber rfl (sRd hrd) ⟨by omega, by omega⟩ (by decide) rfl rfl (by decide) (Nat.le_of_ble_eq_true rfl) rfl rfl ?_
        rintro _ _ _ _ ⟨rfl, rfl, rfl, rfl⟩
        cases hn9 : pNum T E (pLit T E (xB 1) (xL 1) 0 (p + 1)).1 with
        | mk q o9 =>
          rw [hn9] at hnum hcl
          cases o9 with
          | none =>
            refine V_goto (tgt := 80) dX2_readClause_76 (by decide) ?_
            refine V_puti 5 1 dX2_readClause_80 lnX2_54 rfl rfl rfl (sV hva (o := 0) (by omega)) ⟨by omega, by omega⟩ ?_
            refine V_aload_n dX2_readClause_83 rfl ?_
            refine V_getr (b := va) 2 2 dX2_readClause_84 (Or.inl lkX2_19) rfl (sRd hrd) ⟨by omega, by omega⟩ hrd2 ?_
            refine V_geti 5 1 dX2_readClause_87 lnX2_54 rfl (sV hva (o := 0) (by omega)) ⟨by omega, by omega⟩ ?_
            refine V_iconst (v := -1) dX2_readClause_90 rfl ?_
            refine V_icmp_eq (tgt := 98) dX2_readClause_91 (by decide) (fun c91 => ?_) (fun c91 => absurd up2_s c91)
            refine V_iconst (v := 0) dX2_readClause_98 rfl ?_
            refine V_iret dX2_readClause_99 rfl rfl ?_
            rw [hcl, up2_up]
            exact ⟨rfl, rfl, goK_off.up (Or.inr ⟨by omega, by omega⟩), by rw [up2_row (by omega)]; exact up2_s, rfl⟩
          | some v =>
            have hv := hnum.2 v rfl
            refine V_goto (tgt := 80) dX2_readClause_76 (by decide) ?_
            refine V_puti 5 1 dX2_readClause_80 lnX2_54 rfl rfl rfl (sV hva (o := 0) (by omega)) ⟨by omega, by omega⟩ ?_
            refine V_aload_n dX2_readClause_83 rfl ?_
            refine V_getr (b := va) 2 2 dX2_readClause_84 (Or.inl lkX2_19) rfl (sRd hrd) ⟨by omega, by omega⟩ hrd2 ?_
            refine V_geti 5 1 dX2_readClause_87 lnX2_54 rfl (sV hva (o := 0) (by omega)) ⟨by omega, by omega⟩ ?_
            refine V_iconst (v := -1) dX2_readClause_90 rfl ?_
            refine V_icmp_eq (tgt := 98) dX2_readClause_91 (by decide) (fun c91 => absurd (up2_s.symm.trans c91) (fun h => absurd ((numV_m1 (o := some v) (fun u hu => by cases hu; exact hv.2)).mp h) (fun h => by cases h))) (fun c91 => ?_)
            refine V_iconst (v := 1) dX2_readClause_94 rfl ?_
            refine V_goto (tgt := 99) dX2_readClause_95 (by decide) ?_
            refine V_iret dX2_readClause_99 rfl rfl ?_
            rw [hcl, up2_up]
            exact ⟨rfl, rfl, goK_off.up (Or.inr ⟨by omega, by omega⟩), by rw [up2_row (by omega)]; exact up2_s, rfl, (hVS.go hrd hva).num (by decide)⟩
  · have e1 : tk T E p = 103 := b01_n.mp c6
    have hpE := tk_is e1 (by decide)
    rw [if_pos e1] at hcl
    rw [if_pos e1]
    refine V_aload_n dX2_readClause_9 rfl ?_
    refine V_getr (b := va) 2 2 dX2_readClause_10 (Or.inl lkX2_19) rfl (sRd hrd) ⟨by omega, by omega⟩ hrd2 ?_
    refine V_aload_n dX2_readClause_13 rfl ?_
    refine V_ldcs (k := 0) dX2_readClause_14 (fun _ _ h => h.1) (by decide) ?_
    refine V_callV (ci := 2) (qX2_takesAll n mr hR hn rd va hrd hrdn hrd0 hrd2 hva T E hE hT _ (p + 1) (by omega) (hSt.go hrd) 0 (by decide)) dX2_readClause_16 mlX2_41 mtX2_takesAll ivX2_takesAll rfl (sRd hrd) ⟨by omega, by omega⟩ (by decide) rfl rfl (by decide) (Nat.le_of_ble_eq_true rfl) rfl rfl ?_
    rintro _ _ _ _ ⟨rfl, rfl, rfl, rfl⟩
    rw [up2_up]
    have hlit := lit_ok (T := T) (E := E) (k := 0) (p := p + 1) (by decide) (by omega)
    have hcl : pCla T E p = if (pLit T E (xB 0) (xL 0) 0 (p + 1)).2 = true then bindP (pNum T E (pLit T E (xB 0) (xL 0) 0 (p + 1)).1) (fun q v => (q, some (0, v, []))) else ((pLit T E (xB 0) (xL 0) 0 (p + 1)).1, none) := hcl
    refine V_if_eq (tgt := 29) dX2_readClause_19 (by decide) (fun c19 => ?_) (fun c19 => ?_)
    · refine V_iconst (v := -1) dX2_readClause_29 rfl ?_
      refine V_puti 5 0 dX2_readClause_30 lnX2_49 rfl rfl rfl (sV hva (o := 0) (by omega)) ⟨by omega, by omega⟩ ?_
      refine V_aload_n dX2_readClause_33 rfl ?_
      refine V_getr (b := va) 2 2 dX2_readClause_34 (Or.inl lkX2_19) rfl (sRd hrd) ⟨by omega, by omega⟩ hrd2 ?_
      refine V_geti 5 0 dX2_readClause_37 lnX2_49 rfl (sV hva (o := 0) (by omega)) ⟨by omega, by omega⟩ ?_
      refine V_iconst (v := -1) dX2_readClause_40 rfl ?_
      refine V_icmp_eq (tgt := 48) dX2_readClause_41 (by decide) (fun c41 => ?_) (fun c41 => absurd up2_s c41)
      refine V_iconst (v := 0) dX2_readClause_48 rfl ?_
      refine V_iret dX2_readClause_49 rfl rfl ?_
      have ha := b01_0.mp c19
      rw [if_neg ha] at hcl
      rw [hcl]
      exact ⟨rfl, rfl, goK_off.up (Or.inr ⟨by omega, by omega⟩), by rw [up2_row (by omega)]; exact up2_s, rfl⟩
    · have ha := b01_n.mp c19
      rw [if_pos ha] at hcl
      have hnum := pNum_ok (T := T) (E := E) (p := (pLit T E (xB 0) (xL 0) 0 (p + 1)).1) hlit.2.1
      refine V_aload_n dX2_readClause_22 rfl ?_
      refine V_callV (ci := 2) (qX2_readNumber n mr hR hn rd va hrd hrdn hrd0 hrd2 hva T E hE hT _ (pLit T E (xB 0) (xL 0) 0 (p + 1)).1 hlit.2.1 (hSt.go hrd)) dX2_readClause_23 mlX2_45 mtX2_readNumber ivX2_readNumber rfl (sRd hrd) ⟨by omega, by omega⟩ (by decide) rfl rfl (by decide) (Nat.le_of_ble_eq_true rfl) rfl rfl ?_
      rintro _ _ _ _ ⟨rfl, rfl, rfl, rfl⟩
      cases hn9 : pNum T E (pLit T E (xB 0) (xL 0) 0 (p + 1)).1 with
      | mk q o9 =>
        rw [hn9] at hnum hcl
        cases o9 with
        | none =>
          refine V_goto (tgt := 30) dX2_readClause_26 (by decide) ?_
          refine V_puti 5 0 dX2_readClause_30 lnX2_49 rfl rfl rfl (sV hva (o := 0) (by omega)) ⟨by omega, by omega⟩ ?_
          refine V_aload_n dX2_readClause_33 rfl ?_
          refine V_getr (b := va) 2 2 dX2_readClause_34 (Or.inl lkX2_19) rfl (sRd hrd) ⟨by omega, by omega⟩ hrd2 ?_
          refine V_geti 5 0 dX2_readClause_37 lnX2_49 rfl (sV hva (o := 0) (by omega)) ⟨by omega, by omega⟩ ?_
          refine V_iconst (v := -1) dX2_readClause_40 rfl ?_
          refine V_icmp_eq (tgt := 48) dX2_readClause_41 (by decide) (fun c41 => ?_) (fun c41 => absurd up2_s c41)
          refine V_iconst (v := 0) dX2_readClause_48 rfl ?_
          refine V_iret dX2_readClause_49 rfl rfl ?_
          rw [hcl, up2_up]
          exact ⟨rfl, rfl, goK_off.up (Or.inr ⟨by omega, by omega⟩), by rw [up2_row (by omega)]; exact up2_s, rfl⟩
        | some v =>
          have hv := hnum.2 v rfl
          refine V_goto (tgt := 30) dX2_readClause_26 (by decide) ?_
          refine V_puti 5 0 dX2_readClause_30 lnX2_49 rfl rfl rfl (sV hva (o := 0) (by omega)) ⟨by omega, by omega⟩ ?_
          refine V_aload_n dX2_readClause_33 rfl ?_
          refine V_getr (b := va) 2 2 dX2_readClause_34 (Or.inl lkX2_19) rfl (sRd hrd) ⟨by omega, by omega⟩ hrd2 ?_
          refine V_geti 5 0 dX2_readClause_37 lnX2_49 rfl (sV hva (o := 0) (by omega)) ⟨by omega, by omega⟩ ?_
          refine V_iconst (v := -1) dX2_readClause_40 rfl ?_
          refine V_icmp_eq (tgt := 48) dX2_readClause_41 (by decide) (fun c41 => absurd (up2_s.symm.trans c41) (fun h => absurd ((numV_m1 (o := some v) (fun u hu => by cases hu; exact hv.2)).mp h) (fun h => by cases h))) (fun c41 => ?_)
          refine V_iconst (v := 1) dX2_readClause_44 rfl ?_
          refine V_goto (tgt := 49) dX2_readClause_45 (by decide) ?_
          refine V_iret dX2_readClause_49 rfl rfl ?_
          rw [hcl, up2_up]
          exact ⟨rfl, rfl, goK_off.up (Or.inr ⟨by omega, by omega⟩), by rw [up2_row (by omega)]; exact up2_s, rfl, (hVS.go hrd hva).num (by decide)⟩
