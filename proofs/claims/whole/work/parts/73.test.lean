/-- so many steps stand in the village at a, and these -/
def WS (mi : MI) (a : Nat) (W : List Int32) : Prop := mi a 3 = nI W.length ∧ ∀ j, j < W.length → mi (a + 1) j = W.getD j 0
def cntOK (mi : MI) (a : Nat) : Prop := ∃ c : Nat, c ≤ 100 ∧ mi a 3 = nI c
def offV (rd va : Nat) : Nat → Nat → Prop := fun a k => (a = rd ∧ k = 3) ∨ (a = va ∧ k = 3) ∨ a = va + 1
def ResC (o : Option (List Int32)) (r : Option Value) (mi : MI) (va : Nat) (W : List Int32) : Prop := match o with
  | none => r = some (.int 0) ∧ cntOK mi va
  | some l => r = some (.int 1) ∧ WS mi va (W ++ l)
def PostC (res : PR) (n : Nat) (mi : MI) (mr : MR) (rd va : Nat) (W : List Int32) : QT := fun r n' mi' mr' => n = n' ∧ mr = mr' ∧ Off (offV rd va) mi mi' ∧ mi' rd 3 = nI res.1 ∧ ResC res.2 r mi' va W
theorem WS.cnt {mi : MI} {a : Nat} {W : List Int32} (h : WS mi a W) (hW : W.length ≤ 100) : cntOK mi a := ⟨_, hW, h.1⟩
theorem getD_snoc {W : List Int32} {x : Int32} {j : Nat} : (W ++ [x]).getD j 0 = if j = W.length then x else W.getD j 0 := by
  rw [List.getD_eq_getElem?_getD, List.getD_eq_getElem?_getD]
  by_cases e : j = W.length
  · rw [if_pos e, e, List.getElem?_append_right (Nat.le_refl _), Nat.sub_self]
    rfl
  · rw [if_neg e]
    by_cases h : j < W.length
    · rw [List.getElem?_append_left h]
    · rw [List.getElem?_eq_none (by rw [List.length_append, List.length_singleton]; omega), List.getElem?_eq_none (by omega)]
theorem isV.ge {a : Nat} (h : isV a) : 36 ≤ a ∧ a ≤ 169 ∧ a ≠ 44 ∧ a + 1 ≠ 44 ∧ a + 1 ≠ a := by
  have := h.le2
  omega
/-- one step more -/
def addV (mi : MI) (a c : Nat) (x : Int32) : MI := if c < 100 then up2 (up2 mi a 3 (nI (c + 1))) (a + 1) c x else mi
theorem addV_ws {mi : MI} {a : Nat} {W : List Int32} {x : Int32} (h : WS mi a W) (hl : W.length < 100) : WS (addV mi a W.length x) a (W ++ [x]) := by
  unfold addV
  rw [if_pos hl]
  refine ⟨?_, fun j hj => ?_⟩
  · rw [up2_row (by omega), up2_s, List.length_append, List.length_singleton]
  · rw [getD_snoc]
    rw [List.length_append, List.length_singleton] at hj
    by_cases e : j = W.length
    · rw [if_pos e, e, up2_s]
    · rw [if_neg e, up2_k e, up2_row (by omega)]
      exact h.2 j (by omega)
theorem addV_off {mi : MI} {rd a c : Nat} {x : Int32} : Off (offV rd a) mi (addV mi a c x) := by
  unfold addV
  split
  · exact (Off.rf.up (Or.inr (Or.inl ⟨rfl, rfl⟩))).up (Or.inr (Or.inr rfl))
  · exact Off.rf
theorem addV_cnt {mi : MI} {a c : Nat} {x : Int32} (hc : c ≤ 100) (h : mi a 3 = nI c) : cntOK (addV mi a c x) a := by
  unfold addV
  by_cases e : c < 100
  · rw [if_pos e]
    exact ⟨c + 1, by omega, by rw [up2_row (by omega), up2_s]⟩
  · rw [if_neg e]
    exact ⟨c, hc, h⟩
theorem addV_rd {mi : MI} {rd a c k : Nat} {x : Int32} (h : 186 ≤ rd) (ha : isV a) : addV mi a c x rd k = mi rd k := by
  have := ha.ge
  unfold addV
  split
  · rw [up2_row (by omega), up2_row (by omega)]
  · rfl
theorem RdS.off {mi mj : MI} {rd va p q : Nat} {T : Nat → Int32} {E : Nat} (h : RdS mi rd T E p) (hrd : 186 ≤ rd) (hva : isV va) (ho : Off (offV rd va) mi mj) (hq : mj rd 3 = nI q) : RdS mj rd T E q := by
  have := hva.ge
  refine ⟨?_, hq, fun j hj => ?_⟩
  · rw [ho rd 1 (by unfold offV; omega)]
    exact h.1
  · rw [ho 44 j (by unfold offV; omega)]
    exact h.2.2 j hj
theorem WS.go {mi : MI} {rd va : Nat} {W : List Int32} {x : Int32} (h : WS mi va W) (hrd : 186 ≤ rd) (hva : isV va) : WS (up2 mi rd 3 x) va W := by
  have := hva.ge
  unfold WS
  rw [up2_row (by omega), up2_row (by omega)]
  exact h
theorem go_off {mi : MI} {rd va : Nat} {x : Int32} : Off (offV rd va) mi (up2 mi rd 3 x) := Off.rf.up (Or.inl ⟨rfl, rfl⟩)
set_option maxRecDepth 4000 in
theorem qX5_addStep (n : Nat) (mi : MI) (mr : MR) (hR : RF mr) (hn : 186 ≤ n) (va : Nat) (hva : isV va) (c : Nat) (hc : c ≤ 100) (hs : mi va 3 = nI c) (x : Int32)  : Ct KX5_addStep 1 0 0 [.ref va, .int x] n mi mr (eqQ none n (addV mi va c x) mr) := by
  refine Ct.of2 [some (.ref va), some (.int x)] (by decide +kernel) (Nat.le_of_ble_eq_true rfl) rfl ?_
  have hle := hva.le
  have hci : (mi va 3).toInt = (c : Int) := by rw [hs]; exact nI_toInt (by omega)
  refine V_aload_n dX5_addStep_0 rfl ?_
  refine V_geti 5 3 dX5_addStep_1 (Or.inl lkX5_34) rfl (sV hva (o := 0) (by omega)) ⟨by omega, by omega⟩ ?_
  refine V_aload_n dX5_addStep_4 rfl ?_
  refine V_getr (b := (va + 1)) 5 4 dX5_addStep_5 (Or.inl lkX5_9) rfl (sV hva (o := 0) (by omega)) ⟨by omega, by omega⟩ (hR _ _ _ (rV hva (k := 0) (by omega))) ?_
  refine V_alen (len := 100) (v := 100) dX5_addStep_8 (sV hva (o := 1) (by omega)) (by decide) ⟨by omega, by omega⟩ rfl ?_
  refine V_icmp_ge (tgt := 29) dX5_addStep_9 (by decide) (fun c9 => ?_) (fun c9 => ?_)
  · refine V_ret dX5_addStep_29 rfl ?_
    first
      | (unfold addV
         rw [if_pos hlt]
         exact ⟨rfl, rfl, rfl, rfl⟩)
      | (unfold addV
         rw [if_neg (fun h => absurd ((le_nat (x := 100) (a := 100) rfl hci).mp c9) (by omega))]
         exact ⟨rfl, rfl, rfl, rfl⟩)
  · have hlt : c < 100 := Nat.not_le.mp (fun h => c9 ((le_nat (x := 100) (a := 100) rfl hci).mpr h))
    refine V_aload_n dX5_addStep_12 rfl ?_
    refine V_getr (b := (va + 1)) 5 4 dX5_addStep_13 (Or.inl lkX5_9) rfl (sV hva (o := 0) (by omega)) ⟨by omega, by omega⟩ (hR _ _ _ (rV hva (k := 0) (by omega))) ?_
    refine V_aload_n dX5_addStep_16 rfl ?_
    refine V_dup dX5_addStep_17 rfl ?_
    refine V_geti 5 3 dX5_addStep_18 (Or.inl lkX5_34) rfl (sV hva (o := 0) (by omega)) ⟨by omega, by omega⟩ ?_
    refine V_dup_x1 dX5_addStep_21 rfl rfl ?_
    refine V_iconst (v := 1) dX5_addStep_22 rfl ?_
    refine V_iadd dX5_addStep_23 ?_
    rw [hs, nI_p1]
    refine V_puti 5 3 dX5_addStep_24 (Or.inl lkX5_34) rfl rfl rfl (sV hva (o := 0) (by omega)) ⟨by omega, by omega⟩ ?_
    refine V_iload_n dX5_addStep_27 rfl ?_
    refine V_iast (len := 100) c dX5_addStep_28 (sV hva (o := 1) (by omega)) ⟨by omega, by omega⟩ (by rw [← hs]; exact hci) hlt ?_
    refine V_ret dX5_addStep_29 rfl ?_
    first
      | (unfold addV
         rw [if_pos hlt]
         exact ⟨rfl, rfl, rfl, rfl⟩)
      | (unfold addV
         rw [if_neg (fun h => absurd ((le_nat (x := 100) (a := 100) rfl hci).mp c9) (by omega))]
         exact ⟨rfl, rfl, rfl, rfl⟩)
set_option maxRecDepth 4000 in
theorem qX5_testStep (n : Nat) (mi : MI) (mr : MR) (hR : RF mr) (hn : 186 ≤ n) (f g v : Nat) (hf : f < 6) (hg : g < 3) (hv : v ≤ 99)  : Ct KX5_testStep 1 0 0 [.int (nI f), .int (nI g), .int (nI v)] n mi mr (eqQ (some (.int (tokN f g v))) n mi mr) := by
  refine Ct.of2 [some (.int (nI f)), some (.int (nI g)), some (.int (nI v))] (by decide +kernel) (Nat.le_of_ble_eq_true rfl) rfl ?_
  refine V_iload_n dX5_testStep_0 rfl ?_
  refine V_iconst (v := 3) dX5_testStep_1 rfl ?_
  refine V_imul dX5_testStep_2 ?_
  refine V_iload_n dX5_testStep_3 rfl ?_
  refine V_iadd dX5_testStep_4 ?_
  refine V_bipush (v := 100) dX5_testStep_5 rfl ?_
  refine V_imul dX5_testStep_7 ?_
  refine V_iload_n dX5_testStep_8 rfl ?_
  refine V_iadd dX5_testStep_9 ?_
  refine V_iret dX5_testStep_10 rfl rfl ?_
  refine ⟨?_, rfl, rfl, rfl⟩
  refine congrArg (fun z => some (Value.int z)) (nI_of_toInt ?_).symm
  exact ix_add (ix_mul (ix_add (ix_mul (nI_toInt (by omega)) (y := 3) (b := 3) rfl (by omega)) (nI_toInt (by omega)) (by omega)) (y := 100) (b := 100) rfl (by omega)) (nI_toInt (by omega)) (by omega)
set_option maxRecDepth 4000 in
theorem qX2_readTest (n : Nat) (mr : MR) (hR : RF mr) (hn : 186 ≤ n) (rd va : Nat) (hrd : 186 ≤ rd) (hrdn : rd < n) (hrd0 : mr rd 0 = some 44) (hrd2 : mr rd 2 = some va) (hva : isV va) (T : Nat → Int32) (E : Nat) (hE : E ≤ 100) (hT : ∀ j, j < E → 0 ≤ T j ∧ T j ≤ 127) (mi : MI) (p : Nat) (W : List Int32) (hp : p ≤ E) (hSt : RdS mi rd T E p) (hWS : WS mi va W) (hWp : W.length ≤ p) : Ct KX2_readTest 6 0 0 [.ref rd] n mi mr (PostC (pTest T E p) n mi mr rd va W) := by
  refine Ct.of2 [some (.ref rd), none, none, none] (by decide +kernel) (Nat.le_of_ble_eq_true rfl) rfl ?_
  have hge := hva.ge
  have hL4 : xL 4 = 6 := rfl
  have hL5 : xL 5 = 3 := rfl
  refine V_aload_n dX2_readTest_0 rfl ?_
  refine V_ldcs (k := 4) dX2_readTest_1 (fun _ _ h => h.2.2.2.2.1) (by decide) ?_
  refine V_callV (ci := 2) (qX2_readOneOf n mr hR hn rd va hrd hrdn hrd0 hrd2 hva T E hE hT mi p hp hSt 4 (by decide) (Or.inl rfl)) dX2_readTest_3 mlX2_80 mtX2_readOneOf ivX2_readOneOf rfl (sRd hrd) ⟨by omega, by omega⟩ (by decide) rfl rfl (by decide) (Nat.le_of_ble_eq_true rfl) rfl rfl ?_
  rintro _ _ _ _ ⟨rfl, rfl, rfl, rfl⟩
  cases e4 : fnd (xB 4) (tk T E p) (xL 4) 0 with
  | none =>
    have ht : pTest T E p = (p, none) := by
      unfold pTest
      rw [show fnd (xB 4) (tk T E p) 6 0 = none from e4]
    rw [if_pos rfl, up2_id hSt.2.1]
    refine V_istore_n (L' := [_, _, _, _]) dX2_readTest_6 (by decide) rfl rfl ?_
    refine V_iload_n dX2_readTest_7 rfl ?_
    refine V_if_ge (tgt := 13) dX2_readTest_8 (by decide) (fun c8 => absurd (show (-1 : Int32) < 0 by decide) (Int32.not_lt.mpr c8)) (fun c8 => ?_)
    refine V_iconst (v := 0) dX2_readTest_11 rfl ?_
    refine V_iret dX2_readTest_12 rfl rfl ?_
    rw [ht]
    exact ⟨rfl, rfl, Off.rf, hSt.2.1, rfl, hWS.cnt (by omega)⟩
  | some f =>
    have hf := fnd_tk (Or.inl ⟨rfl, rfl⟩) (show fnd (xB 4) (tk T E p) 6 0 = some f from e4)
    rw [if_neg (fun h => by cases h)]
    have hSt1 := hSt.go hrd (q := p + 1)
    have hfi : (nI f).toInt = (f : Int) := nI_toInt (by omega)
    refine V_istore_n (L' := [_, _, _, _]) dX2_readTest_6 (by decide) rfl rfl ?_
    refine V_iload_n dX2_readTest_7 rfl ?_
    refine V_if_ge (tgt := 13) dX2_readTest_8 (by decide) (fun c8 => ?_) (fun c8 => absurd (show 0 ≤ nI f from (le_nat (x := 0) (a := 0) rfl hfi).mpr (Nat.zero_le _)) c8)
    refine V_aload_n dX2_readTest_13 rfl ?_
    refine V_ldcs (k := 5) dX2_readTest_14 (fun _ _ h => h.2.2.2.2.2.1) (by decide) ?_
    refine V_callV (ci := 2) (qX2_readOneOf n mr hR hn rd va hrd hrdn hrd0 hrd2 hva T E hE hT _ (p + 1) (by omega) hSt1 5 (by decide) (Or.inr rfl)) dX2_readTest_16 mlX2_80 mtX2_readOneOf ivX2_readOneOf rfl (sRd hrd) ⟨by omega, by omega⟩ (by decide) rfl rfl (by decide) (Nat.le_of_ble_eq_true rfl) rfl rfl ?_
    rintro _ _ _ _ ⟨rfl, rfl, rfl, rfl⟩
    cases e5 : fnd (xB 5) (tk T E (p + 1)) (xL 5) 0 with
    | none =>
      have ht : pTest T E p = (p + 1, none) := by
        unfold pTest
        rw [show fnd (xB 4) (tk T E p) 6 0 = some f from e4]
        show (match fnd (xB 5) (tk T E (p + 1)) 3 0 with | none => _ | some g => _) = _
        rw [show fnd (xB 5) (tk T E (p + 1)) 3 0 = none from e5]
      rw [if_pos rfl, up2_up]
      refine V_istore_n (L' := [_, _, _, _]) dX2_readTest_19 (by decide) rfl rfl ?_
      refine V_iload_n dX2_readTest_20 rfl ?_
      refine V_if_ge (tgt := 26) dX2_readTest_21 (by decide) (fun c21 => absurd (show (-1 : Int32) < 0 by decide) (Int32.not_lt.mpr c21)) (fun c21 => ?_)
      refine V_iconst (v := 0) dX2_readTest_24 rfl ?_
      refine V_iret dX2_readTest_25 rfl rfl ?_
      rw [ht]
      exact ⟨rfl, rfl, go_off, up2_s, rfl, (hWS.go hrd hva).cnt (by omega)⟩
    | some g =>
      have hg := fnd_tk (Or.inr ⟨rfl, rfl⟩) (show fnd (xB 5) (tk T E (p + 1)) 3 0 = some g from e5)
      rw [if_neg (fun h => by cases h), up2_up]
      have hSt2 := hSt.go hrd (q := p + 1 + 1)
      have hgi : (nI g).toInt = (g : Int) := nI_toInt (by omega)
      have ht : pTest T E p = bindP (pNum T E (p + 2)) (fun q v => (q, some [tokN f g v])) := by
        unfold pTest
        rw [show fnd (xB 4) (tk T E p) 6 0 = some f from e4]
        show (match fnd (xB 5) (tk T E (p + 1)) 3 0 with | none => _ | some g => _) = _
        rw [show fnd (xB 5) (tk T E (p + 1)) 3 0 = some g from e5]
      have hnum := pNum_ok (T := T) (E := E) (p := p + 2) (by omega)
      refine V_istore_n (L' := [_, _, _, _]) dX2_readTest_19 (by decide) rfl rfl ?_
      refine V_iload_n dX2_readTest_20 rfl ?_
      refine V_if_ge (tgt := 26) dX2_readTest_21 (by decide) (fun c21 => ?_) (fun c21 => absurd (show 0 ≤ nI g from (le_nat (x := 0) (a := 0) rfl hgi).mpr (Nat.zero_le _)) c21)
      refine V_aload_n dX2_readTest_26 rfl ?_
      refine V_callV (ci := 2) (qX2_readNumber n mr hR hn rd va hrd hrdn hrd0 hrd2 hva T E hE hT _ (p + 2) (by omega) hSt2) dX2_readTest_27 mlX2_45 mtX2_readNumber ivX2_readNumber rfl (sRd hrd) ⟨by omega, by omega⟩ (by decide) rfl rfl (by decide) (Nat.le_of_ble_eq_true rfl) rfl rfl ?_
      rintro _ _ _ _ ⟨rfl, rfl, rfl, rfl⟩
      cases e6 : pNum T E (p + 2) with
      | mk q o =>
        rw [e6] at hnum ht
        cases o with
        | none =>
          rw [up2_up]
          refine V_istore_n (L' := [_, _, _, _]) dX2_readTest_30 (by decide) rfl rfl ?_
          refine V_iload_n dX2_readTest_31 rfl ?_
          refine V_iconst (v := -1) dX2_readTest_32 rfl ?_
          refine V_icmp_ne (tgt := 38) dX2_readTest_33 (by decide) (fun c33 => absurd rfl c33) (fun c33 => ?_)
          refine V_iconst (v := 0) dX2_readTest_36 rfl ?_
          refine V_iret dX2_readTest_37 rfl rfl ?_
          rw [ht]
          exact ⟨rfl, rfl, go_off, up2_s, rfl, (hWS.go hrd hva).cnt (by omega)⟩
        | some v =>
          have hv := hnum.2 v rfl
          have hqE := hnum.1
          have hv1 : q ≤ E := hqE.2
          have hv2 : p + 2 + 1 ≤ q := hv.1
          rw [up2_up]
          have hcc : (up2 mi rd 3 (nI q)) va 3 = nI W.length := by rw [up2_row (by omega)]; exact hWS.1
          refine V_istore_n (L' := [_, _, _, _]) dX2_readTest_30 (by decide) rfl rfl ?_
          refine V_iload_n dX2_readTest_31 rfl ?_
          refine V_iconst (v := -1) dX2_readTest_32 rfl ?_
          refine V_icmp_ne (tgt := 38) dX2_readTest_33 (by decide) (fun c33 => ?_) (fun c33 => absurd c33 (fun h => absurd ((numV_m1 (o := some v) (fun u hu => by cases hu; exact hv.2)).mp h) (fun h => by cases h)))
          refine V_aload_n dX2_readTest_38 rfl ?_
          refine V_getr (b := va) 2 2 dX2_readTest_39 (Or.inl lkX2_19) rfl (sRd hrd) ⟨by omega, by omega⟩ hrd2 ?_
          refine V_iload_n dX2_readTest_42 rfl ?_
          refine V_iload_n dX2_readTest_43 rfl ?_
          refine V_iload_n dX2_readTest_44 rfl ?_
          refine V_callS (qX5_testStep n _ mr hR hn f g v hf.2 hg.2 hv.2) dX2_readTest_45 mlX2_86 mtX5_testStep smX5_testStep rfl rfl (by decide) (Nat.le_of_ble_eq_true rfl) rfl rfl ?_
          rintro _ _ _ _ ⟨rfl, rfl, rfl, rfl⟩
          refine V_callV (ci := 5) (qX5_addStep n _ mr hR hn va hva W.length (by omega) hcc _) dX2_readTest_48 mlX2_72 mtX5_addStep ivX5_addStep rfl (sV hva (o := 0) (by omega)) ⟨by omega, by omega⟩ (by decide) rfl rfl (by decide) (Nat.le_of_ble_eq_true rfl) rfl rfl ?_
          rintro _ _ _ _ ⟨rfl, rfl, rfl, rfl⟩
          refine V_iconst (v := 1) dX2_readTest_51 rfl ?_
          refine V_iret dX2_readTest_52 rfl rfl ?_
          rw [ht]
          exact ⟨rfl, rfl, go_off.tr addV_off, by rw [addV_rd hrd hva]; exact up2_s, rfl, addV_ws (hWS.go hrd hva) (by omega)⟩
