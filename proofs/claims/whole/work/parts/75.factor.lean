set_option maxRecDepth 4000 in
theorem qX2_readFactor (n : Nat) (mr : MR) (hR : RF mr) (hn : 186 ≤ n) (rd va : Nat) (hrd : 186 ≤ rd) (hrdn : rd < n) (hrd0 : mr rd 0 = some 44) (hrd2 : mr rd 2 = some va) (hva : isV va) (T : Nat → Int32) (E : Nat) (hE : E ≤ 100) (hT : ∀ j, j < E → 0 ≤ T j ∧ T j ≤ 127) : ∀ (r : Nat), r ≤ 5 → (∀ (mi : MI) (p : Nat) (W : List Int32) (x : Int32), p ≤ E → RdS mi rd T E p → WS mi va W → W.length ≤ p → x.toInt = 5 - (r : Int) → Ct KX2_readFactor (7 + 2 * r) 0 0 [.ref rd, .int x] n mi mr (PostC (fac T E r p) n mi mr rd va W)) := by
  have hge := hva.ge
  intro r
  induction r with
  | zero =>
    intro hr mi p W x hp hSt hWS hWp hx
    refine Ct.of2 [some (.ref rd), some (.int x), none] (by decide +kernel) (Nat.le_of_ble_eq_true rfl) rfl ?_
    have hx5 : 5 ≤ x := by
      rw [Int32.le_iff_toInt_le, hx]
      decide
    have hfac : fac T E 0 p = pTest T E p := rfl
    refine V_iload_n dX2_readFactor_0 rfl ?_
    refine V_iconst (v := 5) dX2_readFactor_1 rfl ?_
    refine V_icmp_ge (tgt := 32) dX2_readFactor_2 (by decide) (fun c2 => ?_) (fun c2 => absurd hx5 c2)
    refine V_iload_n dX2_readFactor_32 rfl ?_
    refine V_iconst (v := 5) dX2_readFactor_33 rfl ?_
    refine V_icmp_ge (tgt := 71) dX2_readFactor_34 (by decide) (fun c34 => ?_) (fun c34 => absurd hx5 c34)
    refine V_aload_n dX2_readFactor_71 rfl ?_
    refine V_callV (ci := 2) (qX2_readTest n mr hR hn rd va hrd hrdn hrd0 hrd2 hva T E hE hT mi p W hp hSt hWS hWp) dX2_readFactor_72 mlX2_75 mtX2_readTest ivX2_readTest rfl (sRd hrd) ⟨by omega, by omega⟩ (by decide) rfl rfl (by omega) (Nat.le_of_ble_eq_true rfl) rfl rfl ?_
    rintro ro _ m1 _ ⟨rfl, rfl, ho1, hq1, hres⟩
    rw [hfac]
    cases ht : pTest T E p with
    | mk q o =>
      rw [ht] at hq1 hres
      cases o with
      | none =>
        obtain ⟨rfl, hs⟩ := hres
        exact V_iret dX2_readFactor_75 rfl rfl ⟨rfl, rfl, ho1, hq1, rfl, hs⟩
      | some l =>
        obtain ⟨rfl, hs⟩ := hres
        exact V_iret dX2_readFactor_75 rfl rfl ⟨rfl, rfl, ho1, hq1, rfl, hs⟩
  | succ r ih =>
    intro hr mi p W x hp hSt hWS hWp hx
    refine Ct.of2 [some (.ref rd), some (.int x), none] (by decide +kernel) (Nat.le_of_ble_eq_true rfl) rfl ?_
    have hF := ih (by omega)
    have hEi := qX2_readEither n mr hR hn rd va hrd hrdn hrd0 hrd2 hva T E hE hT r (by omega) hF
    have hx5 : ¬ 5 ≤ x := by
      rw [Int32.le_iff_toInt_le, hx]
      simp only [Int32.reduceToInt]
      omega
    have hx1 : (x + 1).toInt = 5 - (r : Int) := by
      rw [i_add hx (b := 1) (by decide) (by omega)]
      omega
    have hfac : fac T E (r + 1) p = if tk T E p = 33 then bindP (fac T E r (p + 1)) (fun q l => (q, some (l ++ [-1]))) else if tk T E p = 40 then bindP (som T E (fac T E r) (p + 1)) (fun q l => if tk T E q = 41 then (q + 1, some l) else (q, none)) else pTest T E p := rfl
    refine V_iload_n dX2_readFactor_0 rfl ?_
    refine V_iconst (v := 5) dX2_readFactor_1 rfl ?_
    refine V_icmp_ge (tgt := 32) dX2_readFactor_2 (by decide) (fun c2 => absurd c2 hx5) (fun c2 => ?_)
    refine V_aload_n dX2_readFactor_5 rfl ?_
    refine V_bipush (v := 33) dX2_readFactor_6 rfl ?_
    refine V_callV (ci := 2) (qX2_takes n mr hR hn rd va hrd hrdn hrd0 hrd2 hva T E hE hT mi p hp hSt 33 (by decide)) dX2_readFactor_8 mlX2_35 mtX2_takes ivX2_takes rfl (sRd hrd) ⟨by omega, by omega⟩ (by decide) rfl rfl (by omega) (Nat.le_of_ble_eq_true rfl) rfl rfl ?_
    rintro _ _ _ _ ⟨rfl, rfl, rfl, rfl⟩
    refine V_if_eq (tgt := 32) dX2_readFactor_11 (by decide) (fun c11 => ?_) (fun c11 => ?_)
    · have e33 : ¬ tk T E p = 33 := b01_0.mp c11
      rw [if_neg e33] at hfac
      rw [if_neg e33, up2_id hSt.2.1]
      refine V_iload_n dX2_readFactor_32 rfl ?_
      refine V_iconst (v := 5) dX2_readFactor_33 rfl ?_
      refine V_icmp_ge (tgt := 71) dX2_readFactor_34 (by decide) (fun c34 => absurd c34 hx5) (fun c34 => ?_)
      refine V_aload_n dX2_readFactor_37 rfl ?_
      refine V_bipush (v := 40) dX2_readFactor_38 rfl ?_
      refine V_callV (ci := 2) (qX2_takes n mr hR hn rd va hrd hrdn hrd0 hrd2 hva T E hE hT mi p hp hSt 40 (by decide)) dX2_readFactor_40 mlX2_35 mtX2_takes ivX2_takes rfl (sRd hrd) ⟨by omega, by omega⟩ (by decide) rfl rfl (by omega) (Nat.le_of_ble_eq_true rfl) rfl rfl ?_
      rintro _ _ _ _ ⟨rfl, rfl, rfl, rfl⟩
      refine V_if_eq (tgt := 71) dX2_readFactor_43 (by decide) (fun c43 => ?_) (fun c43 => ?_)
      · have e40 : ¬ tk T E p = 40 := b01_0.mp c43
        rw [if_neg e40] at hfac
        rw [if_neg e40, up2_id hSt.2.1]
        refine V_aload_n dX2_readFactor_71 rfl ?_
        refine V_callV (ci := 2) (qX2_readTest n mr hR hn rd va hrd hrdn hrd0 hrd2 hva T E hE hT mi p W hp hSt hWS hWp) dX2_readFactor_72 mlX2_75 mtX2_readTest ivX2_readTest rfl (sRd hrd) ⟨by omega, by omega⟩ (by decide) rfl rfl (by omega) (Nat.le_of_ble_eq_true rfl) rfl rfl ?_
        rintro ro _ m1 _ ⟨rfl, rfl, ho1, hq1, hres⟩
        rw [hfac]
        cases ht : pTest T E p with
        | mk q o =>
          rw [ht] at hq1 hres
          cases o with
          | none =>
            obtain ⟨rfl, hs⟩ := hres
            exact V_iret dX2_readFactor_75 rfl rfl ⟨rfl, rfl, ho1, hq1, rfl, hs⟩
          | some l =>
            obtain ⟨rfl, hs⟩ := hres
            exact V_iret dX2_readFactor_75 rfl rfl ⟨rfl, rfl, ho1, hq1, rfl, hs⟩
      · have e40 : tk T E p = 40 := b01_n.mp c43
        have hpE := tk_is e40 (by decide)
        rw [if_pos e40] at hfac
        rw [if_pos e40]
        refine V_aload_n dX2_readFactor_46 rfl ?_
        refine V_iload_n dX2_readFactor_47 rfl ?_
        refine V_iconst (v := 1) dX2_readFactor_48 rfl ?_
        refine V_iadd dX2_readFactor_49 ?_
        refine V_callV (ci := 2) (hEi _ (p + 1) W _ (by omega) (hSt.go hrd) (hWS.go hrd hva) (by omega) hx1) dX2_readFactor_50 mlX2_61 mtX2_readEither ivX2_readEither rfl (sRd hrd) ⟨by omega, by omega⟩ (by decide) rfl rfl (by omega) (Nat.le_of_ble_eq_true rfl) rfl rfl ?_
        rintro ro _ m1 _ ⟨rfl, rfl, ho1, hq1, hres⟩
        have hg0 := som_ok (T := T) (F := fac T E r) (fun p hp => fac_ok (r := r) hp) (p := p + 1) (by omega : p + 1 ≤ E)
        cases hr9 : som T E (fac T E r) (p + 1) with
        | mk q o9 =>
          rw [hr9] at hg0 hq1 hres hfac
          have hqE : q ≤ E := hg0.1.2
          cases o9 with
          | none =>
            obtain ⟨rfl, hs⟩ := hres
            refine V_if_eq (tgt := 69) dX2_readFactor_53 (by decide) (fun c53 => ?_) (fun c53 => absurd rfl c53)
            refine V_iconst (v := 0) dX2_readFactor_69 rfl ?_
            refine V_iret dX2_readFactor_70 rfl rfl ?_
            rw [hfac]
            exact ⟨rfl, rfl, go_off.tr ho1, hq1, rfl, hs⟩
          | some l =>
            obtain ⟨rfl, hs⟩ := hres
            obtain ⟨g1, g2, g3, g4⟩ := hg0.2 l rfl
            have g2 : p + 1 + l.length ≤ q := g2
            have hSt1 := (hSt.go hrd (q := p + 1)).off hrd hva ho1 hq1
            have hfac : fac T E (r + 1) p = if tk T E q = 41 then (q + 1, some l) else (q, none) := hfac
            refine V_if_eq (tgt := 69) dX2_readFactor_53 (by decide) (fun c53 => absurd c53 (by decide)) (fun c53 => ?_)
            refine V_aload_n dX2_readFactor_56 rfl ?_
            refine V_bipush (v := 41) dX2_readFactor_57 rfl ?_
            refine V_callV (ci := 2) (qX2_takes n mr hR hn rd va hrd hrdn hrd0 hrd2 hva T E hE hT m1 q hqE hSt1 41 (by decide)) dX2_readFactor_59 mlX2_35 mtX2_takes ivX2_takes rfl (sRd hrd) ⟨by omega, by omega⟩ (by decide) rfl rfl (by omega) (Nat.le_of_ble_eq_true rfl) rfl rfl ?_
            rintro _ _ _ _ ⟨rfl, rfl, rfl, rfl⟩
            refine V_if_eq (tgt := 69) dX2_readFactor_62 (by decide) (fun c62 => ?_) (fun c62 => ?_)
            · refine V_iconst (v := 0) dX2_readFactor_69 rfl ?_
              refine V_iret dX2_readFactor_70 rfl rfl ?_
              first
                | (have e : tk T E q = 41 := b01_n.mp c62
                   rw [if_pos e] at hfac
                   rw [hfac, if_pos e]
                   exact ⟨rfl, rfl, (go_off.tr ho1).tr go_off, up2_s, rfl, hs.go hrd hva⟩)
                | (have e : ¬ tk T E q = 41 := b01_0.mp c62
                   rw [if_neg e] at hfac
                   rw [hfac, if_neg e, up2_id hSt1.2.1]
                   exact ⟨rfl, rfl, go_off.tr ho1, hq1, rfl, hs.cnt (by simp only [List.length_append]; omega)⟩)
            · refine V_iconst (v := 1) dX2_readFactor_65 rfl ?_
              refine V_goto (tgt := 70) dX2_readFactor_66 (by decide) ?_
              refine V_iret dX2_readFactor_70 rfl rfl ?_
              first
                | (have e : tk T E q = 41 := b01_n.mp c62
                   rw [if_pos e] at hfac
                   rw [hfac, if_pos e]
                   exact ⟨rfl, rfl, (go_off.tr ho1).tr go_off, up2_s, rfl, hs.go hrd hva⟩)
                | (have e : ¬ tk T E q = 41 := b01_0.mp c62
                   rw [if_neg e] at hfac
                   rw [hfac, if_neg e, up2_id hSt1.2.1]
                   exact ⟨rfl, rfl, go_off.tr ho1, hq1, rfl, hs.cnt (by simp only [List.length_append]; omega)⟩)
    · have e33 : tk T E p = 33 := b01_n.mp c11
      have hpE := tk_is e33 (by decide)
      rw [if_pos e33] at hfac
      rw [if_pos e33]
      refine V_aload_n dX2_readFactor_14 rfl ?_
      refine V_iload_n dX2_readFactor_15 rfl ?_
      refine V_iconst (v := 1) dX2_readFactor_16 rfl ?_
      refine V_iadd dX2_readFactor_17 ?_
      refine V_callV (ci := 2) (hF _ (p + 1) W _ (by omega) (hSt.go hrd) (hWS.go hrd hva) (by omega) hx1) dX2_readFactor_18 mlX2_69 mtX2_readFactor ivX2_readFactor rfl (sRd hrd) ⟨by omega, by omega⟩ (by decide) rfl rfl (by omega) (Nat.le_of_ble_eq_true rfl) rfl rfl ?_
      rintro ro _ m1 _ ⟨rfl, rfl, ho1, hq1, hres⟩
      have hg0 := fac_ok (T := T) (r := r) (p := p + 1) (by omega : p + 1 ≤ E)
      cases hr9 : fac T E r (p + 1) with
      | mk q o9 =>
        rw [hr9] at hg0 hq1 hres hfac
        have hqE : q ≤ E := hg0.1.2
        cases o9 with
        | none =>
          obtain ⟨rfl, cc, hcc, hs⟩ := hres
          refine V_istore_n (L' := [_, _, _]) dX2_readFactor_21 (by decide) rfl rfl ?_
          refine V_aload_n dX2_readFactor_22 rfl ?_
          refine V_getr (b := va) 2 2 dX2_readFactor_23 (Or.inl lkX2_19) rfl (sRd hrd) ⟨by omega, by omega⟩ hrd2 ?_
          refine V_iconst (v := -1) dX2_readFactor_26 rfl ?_
          refine V_callV (ci := 5) (qX5_addStep n _ mr hR hn va hva cc hcc hs _) dX2_readFactor_27 mlX2_72 mtX5_addStep ivX5_addStep rfl (sV hva (o := 0) (by omega)) ⟨by omega, by omega⟩ (by decide) rfl rfl (by omega) (Nat.le_of_ble_eq_true rfl) rfl rfl ?_
          rintro _ _ _ _ ⟨rfl, rfl, rfl, rfl⟩
          refine V_iload_n dX2_readFactor_30 rfl ?_
          refine V_iret dX2_readFactor_31 rfl rfl ?_
          rw [hfac]
          exact ⟨rfl, rfl, (go_off.tr ho1).tr addV_off, by rw [addV_rd hrd hva]; exact hq1, rfl, addV_cnt hcc hs⟩
        | some l =>
          obtain ⟨rfl, hs⟩ := hres
          obtain ⟨g1, g2, g3, g4⟩ := hg0.2 l rfl
          have g2 : p + 1 + l.length ≤ q := g2
          refine V_istore_n (L' := [_, _, _]) dX2_readFactor_21 (by decide) rfl rfl ?_
          refine V_aload_n dX2_readFactor_22 rfl ?_
          refine V_getr (b := va) 2 2 dX2_readFactor_23 (Or.inl lkX2_19) rfl (sRd hrd) ⟨by omega, by omega⟩ hrd2 ?_
          refine V_iconst (v := -1) dX2_readFactor_26 rfl ?_
          refine V_callV (ci := 5) (qX5_addStep n _ mr hR hn va hva (W ++ l).length (by simp only [List.length_append]; omega) hs.1 _) dX2_readFactor_27 mlX2_72 mtX5_addStep ivX5_addStep rfl (sV hva (o := 0) (by omega)) ⟨by omega, by omega⟩ (by decide) rfl rfl (by omega) (Nat.le_of_ble_eq_true rfl) rfl rfl ?_
          rintro _ _ _ _ ⟨rfl, rfl, rfl, rfl⟩
          refine V_iload_n dX2_readFactor_30 rfl ?_
          refine V_iret dX2_readFactor_31 rfl rfl ?_
          rw [hfac]
          exact ⟨rfl, rfl, (go_off.tr ho1).tr addV_off, by rw [addV_rd hrd hva]; exact hq1, rfl, (addV_ws hs (by simp only [List.length_append]; omega)).as (by rw [List.append_assoc])⟩
/-- the steps of clauses, the clauses that tell of nerve -/
def flatK (cs : List CL) : List Int32 := cs.flatMap (fun c => c.2.2)
def kN (cs : List CL) : List CL := cs.filter (fun c => decide (2 ≤ c.1))
def valC (c : CL) : Int32 := if c.1 = 2 then nI c.2.1 else -nI c.2.1
def endK (L : List CL) (k : Nat) : Nat := (flatK (L.take (k + 1))).length
def grownL (cs : List CL) : Nat := cs.foldl (fun g c => if c.1 = 0 then c.2.1 else g) 18
def oldL (cs : List CL) : Nat := cs.foldl (fun g c => if c.1 = 1 then c.2.1 else g) 60
def nC : CL := (0, 0, [])
/-- the village at va has read these clauses -/
def VS (mi : MI) (va : Nat) (cs : List CL) : Prop := WS mi va (flatK cs) ∧ mi va 2 = nI (kN cs).length ∧ (∀ k, k < (kN cs).length → mi (va + 2) k = valC ((kN cs).getD k nC) ∧ mi (va + 3) k = nI (endK (kN cs) k)) ∧ mi va 0 = nI (grownL cs) ∧ mi va 1 = nI (oldL cs)
def offK (rd va : Nat) : Nat → Nat → Prop := fun a k => (a = rd ∧ k = 3) ∨ (va ≤ a ∧ a ≤ va + 3)
theorem offV_K {rd va : Nat} {mi mj : MI} (h : Off (offV rd va) mi mj) : Off (offK rd va) mi mj := h.mono (fun a k q => by unfold offV at q; unfold offK; omega)
theorem flatK_app {a : List CL} {c : CL} : flatK (a ++ [c]) = flatK a ++ c.2.2 := by
  unfold flatK
  rw [List.flatMap_append, List.flatMap_singleton]
theorem kN_app {a : List CL} {c : CL} : kN (a ++ [c]) = if 2 ≤ c.1 then kN a ++ [c] else kN a := by
  unfold kN
  rw [List.filter_append]
  by_cases h : 2 ≤ c.1
  · rw [if_pos h, List.filter_cons_of_pos (p := fun c : CL => decide (2 ≤ c.1)) (by exact decide_eq_true h)]
    rfl
  · rw [if_neg h, List.filter_cons_of_neg (by rw [decide_eq_true_iff]; exact h)]
    exact List.append_nil _
theorem kN_len {cs : List CL} : (kN cs).length ≤ cs.length := List.length_filter_le _ _
theorem grownL_app {a : List CL} {c : CL} : grownL (a ++ [c]) = if c.1 = 0 then c.2.1 else grownL a := by
  unfold grownL
  rw [List.foldl_append]
  rfl
theorem oldL_app {a : List CL} {c : CL} : oldL (a ++ [c]) = if c.1 = 1 then c.2.1 else oldL a := by
  unfold oldL
  rw [List.foldl_append]
  rfl
theorem flatK_kN : ∀ {cs : List CL}, (∀ c, c ∈ cs → c.1 < 2 → c.2.2 = []) → flatK (kN cs) = flatK cs
  | [], _ => rfl
  | c :: cs, h => by
    have ih := flatK_kN (cs := cs) (fun c hc => h c (List.mem_cons_of_mem _ hc))
    unfold kN
    by_cases e : 2 ≤ c.1
    · rw [List.filter_cons_of_pos (p := fun c : CL => decide (2 ≤ c.1)) (by exact decide_eq_true e)]
      show c.2.2 ++ flatK (kN cs) = c.2.2 ++ flatK cs
      rw [ih]
    · rw [List.filter_cons_of_neg (by rw [decide_eq_true_iff]; exact e)]
      show flatK (kN cs) = c.2.2 ++ flatK cs
      rw [ih, h c List.mem_cons_self (by omega), List.nil_append]
theorem VS.off {mi mj : MI} {va : Nat} {cs : List CL} (h : VS mi va cs) (e0 : ∀ k, k < 3 → mj va k = mi va k) (e2 : mj (va + 2) = mi (va + 2)) (e3 : mj (va + 3) = mi (va + 3)) (hw : WS mj va (flatK cs)) : VS mj va cs := by
  obtain ⟨-, h2, h3, h4, h5⟩ := h
  refine ⟨hw, by rw [e0 2 (by decide)]; exact h2, fun k hk => by rw [e2, e3]; exact h3 k hk, by rw [e0 0 (by decide)]; exact h4, by rw [e0 1 (by decide)]; exact h5⟩
theorem VS.ws {mi : MI} {va : Nat} {cs : List CL} (h : VS mi va cs) : WS mi va (flatK cs) := h.1
/-- what is kept of a village but its steps, when an expression is read -/
theorem VS.exp {mi mj : MI} {rd va : Nat} (hva : isV va) (hrd : 186 ≤ rd) (ho : Off (offV rd va) mi mj) : (∀ k, k < 3 → mj va k = mi va k) ∧ mj (va + 2) = mi (va + 2) ∧ mj (va + 3) = mi (va + 3) := by
  have := hva.ge
  exact ⟨fun k hk => ho va k (by unfold offV; omega), ho.fn (fun k => by unfold offV; omega), ho.fn (fun k => by unfold offV; omega)⟩
def ResK (o : Option CL) (r : Option Value) (mi : MI) (va : Nat) (cs : List CL) : Prop := match o with
  | none => r = some (.int 0)
  | some c => r = some (.int 1) ∧ VS mi va (cs ++ [c])
def PostK (res : Nat × Option CL) (n : Nat) (mi : MI) (mr : MR) (rd va : Nat) (cs : List CL) : QT := fun r n' mi' mr' => n = n' ∧ mr = mr' ∧ Off (offK rd va) mi mi' ∧ mi' rd 3 = nI res.1 ∧ ResK res.2 r mi' va cs
set_option maxRecDepth 4000 in
theorem qX5_forget (n : Nat) (mi : MI) (mr : MR) (hR : RF mr) (hn : 186 ≤ n) (va : Nat) (hva : isV va)  : Ct KX5_forget 1 0 0 [.ref va] n mi mr (eqQ none n (up2 (up2 (up2 (up2 mi va 0 18) va 1 60) va 2 0) va 3 0) mr) := by
  refine Ct.of2 [some (.ref va)] (by decide +kernel) (Nat.le_of_ble_eq_true rfl) rfl ?_
  have hle := hva.le
  refine V_aload_n dX5_forget_0 rfl ?_
  refine V_bipush (v := 18) dX5_forget_1 rfl ?_
  refine V_puti 5 0 dX5_forget_3 (Or.inl lkX5_24) rfl rfl rfl (sV hva (o := 0) (by omega)) ⟨by omega, by omega⟩ ?_
  refine V_aload_n dX5_forget_6 rfl ?_
  refine V_bipush (v := 60) dX5_forget_7 rfl ?_
  refine V_puti 5 1 dX5_forget_9 (Or.inl lkX5_28) rfl rfl rfl (sV hva (o := 0) (by omega)) ⟨by omega, by omega⟩ ?_
  refine V_aload_n dX5_forget_12 rfl ?_
  refine V_iconst (v := 0) dX5_forget_13 rfl ?_
  refine V_puti 5 2 dX5_forget_14 (Or.inl lkX5_31) rfl rfl rfl (sV hva (o := 0) (by omega)) ⟨by omega, by omega⟩ ?_
  refine V_aload_n dX5_forget_17 rfl ?_
  refine V_iconst (v := 0) dX5_forget_18 rfl ?_
  refine V_puti 5 3 dX5_forget_19 (Or.inl lkX5_34) rfl rfl rfl (sV hva (o := 0) (by omega)) ⟨by omega, by omega⟩ ?_
  refine V_ret dX5_forget_22 rfl ?_
  exact ⟨rfl, rfl, rfl, rfl⟩
set_option maxRecDepth 4000 in
theorem qX5_endClause (n : Nat) (mi : MI) (mr : MR) (hR : RF mr) (hn : 186 ≤ n) (va : Nat) (hva : isV va) (c : Nat) (hc : c < 10) (hs : mi va 2 = nI c) (x : Int32)  : Ct KX5_endClause 1 0 0 [.ref va, .int x] n mi mr (eqQ none n (up2 (up2 (up2 mi (va + 2) c x) (va + 3) c (mi va 3)) va 2 (nI (c + 1))) mr) := by
  refine Ct.of2 [some (.ref va), some (.int x)] (by decide +kernel) (Nat.le_of_ble_eq_true rfl) rfl ?_
  have hle := hva.le
  have hci : (mi va 2).toInt = (c : Int) := by rw [hs]; exact nI_toInt (by omega)
  refine V_aload_n dX5_endClause_0 rfl ?_
  refine V_geti 5 2 dX5_endClause_1 (Or.inl lkX5_31) rfl (sV hva (o := 0) (by omega)) ⟨by omega, by omega⟩ ?_
  refine V_bipush (v := 10) dX5_endClause_4 rfl ?_
  refine V_icmp_ge (tgt := 42) dX5_endClause_6 (by decide) (fun c6 => absurd ((le_nat (x := 10) (a := 10) rfl hci).mp c6) (by omega)) (fun c6 => ?_)
  refine V_aload_n dX5_endClause_9 rfl ?_
  refine V_getr (b := (va + 2)) 5 5 dX5_endClause_10 (Or.inl lkX5_15) rfl (sV hva (o := 0) (by omega)) ⟨by omega, by omega⟩ (hR _ _ _ (rV hva (k := 1) (by omega))) ?_
  refine V_aload_n dX5_endClause_13 rfl ?_
  refine V_geti 5 2 dX5_endClause_14 (Or.inl lkX5_31) rfl (sV hva (o := 0) (by omega)) ⟨by omega, by omega⟩ ?_
  refine V_iload_n dX5_endClause_17 rfl ?_
  refine V_iast (len := 10) c dX5_endClause_18 (sV hva (o := 2) (by omega)) ⟨by omega, by omega⟩ hci hc ?_
  refine V_aload_n dX5_endClause_19 rfl ?_
  refine V_getr (b := (va + 3)) 5 6 dX5_endClause_20 (Or.inl lkX5_18) rfl (sV hva (o := 0) (by omega)) ⟨by omega, by omega⟩ (hR _ _ _ (rV hva (k := 2) (by omega))) ?_
  refine V_aload_n dX5_endClause_23 rfl ?_
  refine V_geti 5 2 dX5_endClause_24 (Or.inl lkX5_31) rfl (sV hva (o := 0) (by omega)) ⟨by omega, by omega⟩ ?_
  rw [up2_row (by omega)]
  refine V_aload_n dX5_endClause_27 rfl ?_
  refine V_geti 5 3 dX5_endClause_28 (Or.inl lkX5_34) rfl (sV hva (o := 0) (by omega)) ⟨by omega, by omega⟩ ?_
  rw [up2_row (by omega)]
  refine V_iast (len := 10) c dX5_endClause_31 (sV hva (o := 3) (by omega)) ⟨by omega, by omega⟩ hci hc ?_
  refine V_aload_n dX5_endClause_32 rfl ?_
  refine V_dup dX5_endClause_33 rfl ?_
  refine V_geti 5 2 dX5_endClause_34 (Or.inl lkX5_31) rfl (sV hva (o := 0) (by omega)) ⟨by omega, by omega⟩ ?_
  refine V_iconst (v := 1) dX5_endClause_37 rfl ?_
  refine V_iadd dX5_endClause_38 ?_
  rw [up2_row (by omega), up2_row (by omega), hs, nI_p1]
  refine V_puti 5 2 dX5_endClause_39 (Or.inl lkX5_31) rfl rfl rfl (sV hva (o := 0) (by omega)) ⟨by omega, by omega⟩ ?_
  refine V_ret dX5_endClause_42 rfl ?_
  exact ⟨rfl, rfl, rfl, rfl⟩
