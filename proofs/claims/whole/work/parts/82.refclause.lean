/-- what the reference writes of a clause -/
def markM (c : CL) : Int32 := (if c.1 = 2 then -10 else -200) - nI c.2.1
def refC (c : CL) : List Int32 := if 2 ≤ c.1 then c.2.2.map tokM ++ [markM c] else []
def refK (cs : List CL) : List Int32 := cs.flatMap refC
def RS (mi : MI) (a : Nat) (cs : List CL) : Prop := WR mi a (refK cs) ∧ mi 174 (223 + a) = nI (grownL cs) ∧ mi 174 (228 + a) = nI (oldL cs)
theorem refK_app {cs : List CL} {c : CL} : refK (cs ++ [c]) = refK cs ++ refC c := by
  unfold refK
  rw [List.flatMap_append, List.flatMap_singleton]
def offRc (a : Nat) : Nat → Nat → Prop := fun b k => offPm a b k ∨ (b = 174 ∧ (k = 223 + a ∨ k = 228 + a))
theorem offPm_c {a : Nat} {mi mj : MI} (h : Off (offPm a) mi mj) : Off (offRc a) mi mj := h.mono (fun _ _ q => Or.inl q)
def PostX (res : Nat × Option CL) (n : Nat) (mi : MI) (mr : MR) (a : Nat) (X : CL → MI → Prop) : QT := fun r n' mi' mr' => none = r ∧ n = n' ∧ mr = mr' ∧ Off (offRc a) mi mi' ∧ mi' 173 6 = nI res.1 ∧ mi' 173 9 = mi 173 9 ∧ match res.2 with
  | none => mi' 173 8 = 1
  | some c => mi' 173 8 = 0 ∧ X c mi'

set_option maxRecDepth 4000 in
theorem qX8_tellsHere (n : Nat) (mr : MR) (hR : RF mr) (hn : 186 ≤ n) (a : Nat) (ha5 : a < 5) (T : Nat → Int32) (E : Nat) (hE : E ≤ 100) (mi : MI) (p : Nat) (hp : p ≤ E) (hSt : MdS mi a T E p) (h8 : mi 173 8 = 0) (k : Nat) (hk : k < 8) (tag wh : Nat) (hwh : wh = 223 ∨ wh = 228) (x : Int32) (hx : x.toInt = (wh : Int)) : Ct KX8_tellsHere 6 0 0 [.ref 173, .int x, .ref (4 + k)] n mi mr (PostX (litN T E k tag p) n mi mr a (fun c mj => mj 174 (wh + a) = nI c.2.1 ∧ ∀ j, ¬ j = wh + a → mj 174 j = mi 174 j)) := by
  refine Ct.of2 [some (.ref 173), some (.int x), some (.ref (4 + k)), none] (by decide +kernel) (Nat.le_of_ble_eq_true rfl) rfl ?_
  have hlit := lit_ok (T := T) (E := E) hk hp
  have hl : litN T E k tag p = if (pLit T E (xB k) (xL k) 0 p).2 = true then bindP (pNum T E (pLit T E (xB k) (xL k) 0 p).1) (fun q v => (q, some (tag, v, []))) else ((pLit T E (xB k) (xL k) 0 p).1, none) := rfl
  refine V_aload_n dX8_tellsHere_0 rfl ?_
  refine V_aload_n dX8_tellsHere_1 rfl ?_
  refine V_callV (ci := 8) (qX8_spells n mr hR hn a ha5 T E hE mi p hp hSt h8 k hk) dX8_tellsHere_2 mlX8_113 mtX8_spells ivX8_spells rfl rfl ⟨by omega, by omega⟩ (by decide) rfl rfl (by decide) (Nat.le_of_ble_eq_true rfl) rfl rfl ?_
  rintro _ _ _ _ ⟨rfl, rfl, rfl, rfl⟩
  by_cases h1 : (pLit T E (xB k) (xL k) 0 p).2 = true
  · rw [if_pos h1] at hl
    rw [b01_f (fun h => h h1)]
    have hnum := pNum_ok (T := T) (E := E) (p := (pLit T E (xB k) (xL k) 0 p).1) hlit.2.1
    refine V_aload_n dX8_tellsHere_5 rfl ?_
    refine V_callV (ci := 8) (qX8_figures n mr hR hn a ha5 T E hE _ (pLit T E (xB k) (xL k) 0 p).1 hlit.2.1 hSt.go setWP_8) dX8_tellsHere_6 mlX8_107 mtX8_figures ivX8_figures rfl rfl ⟨by omega, by omega⟩ (by decide) rfl rfl (by decide) (Nat.le_of_ble_eq_true rfl) rfl rfl ?_
    rintro _ _ _ _ ⟨rfl, rfl, rfl, rfl⟩
    rw [setWP_2]
    cases hn9 : pNum T E (pLit T E (xB k) (xL k) 0 p).1 with
    | mk q o9 =>
      rw [hn9] at hnum hl
      cases o9 with
      | none =>
        rw [b01_t rfl]
        refine V_istore_n (L' := [_, _, _, _]) dX8_tellsHere_9 (by decide) rfl rfl ?_
        refine V_aload_n dX8_tellsHere_10 rfl ?_
        refine V_geti 8 8 dX8_tellsHere_11 (Or.inl lkX8_63) rfl rfl ⟨by omega, by omega⟩ ?_
        rw [setWP_8]
        refine V_if_ne (tgt := 29) dX8_tellsHere_14 (by decide) (fun c14 => ?_) (fun c14 => absurd c14 (by decide))
        refine V_ret dX8_tellsHere_29 rfl ?_
        rw [hl]
        exact ⟨rfl, rfl, rfl, offPm_c wp_off, setWP_6, setWP_k (by decide), setWP_8⟩
      | some v =>
        rw [b01_f (c := (q, some v).2 = none) (fun h => by cases h)]
        have hSq : MdS (setWP mi 0 q) a T E q := hSt.go
        have hai : (setWP mi 0 q 173 5).toInt = (a : Int) := by rw [hSq.1]; exact nI_toInt (by omega)
        refine V_istore_n (L' := [_, _, _, _]) dX8_tellsHere_9 (by decide) rfl rfl ?_
        refine V_aload_n dX8_tellsHere_10 rfl ?_
        refine V_geti 8 8 dX8_tellsHere_11 (Or.inl lkX8_63) rfl rfl ⟨by omega, by omega⟩ ?_
        rw [setWP_8]
        refine V_if_ne (tgt := 29) dX8_tellsHere_14 (by decide) (fun c14 => absurd rfl c14) (fun c14 => ?_)
        refine V_aload_n dX8_tellsHere_17 rfl ?_
        refine V_getr (b := 174) 8 1 dX8_tellsHere_18 (Or.inl lkX8_9) rfl rfl ⟨by omega, by omega⟩ (hR _ _ _ rfl) ?_
        refine V_iload_n dX8_tellsHere_21 rfl ?_
        refine V_aload_n dX8_tellsHere_22 rfl ?_
        refine V_geti 8 5 dX8_tellsHere_23 (Or.inl lkX8_84) rfl rfl ⟨by omega, by omega⟩ ?_
        refine V_iadd dX8_tellsHere_26 ?_
        refine V_iload_n dX8_tellsHere_27 rfl ?_
        refine V_iast (len := 938) (wh + a) dX8_tellsHere_28 rfl ⟨by omega, by omega⟩ (ix_add hx hai (by omega)) (by omega) ?_
        refine V_ret dX8_tellsHere_29 rfl ?_
        rw [hl]
        refine ⟨rfl, rfl, rfl, (offPm_c wp_off).up (Or.inr ⟨rfl, by omega⟩), ?_, ?_, ?_, up2_s, fun j hj => ?_⟩
        · rw [up2_row (by decide)]
          exact setWP_6
        · rw [up2_row (by decide)]
          exact setWP_k (by decide)
        · rw [up2_row (by decide)]
          exact setWP_8
        · rw [up2_k hj, setWP_row (by decide)]
  · rw [if_neg h1] at hl
    rw [b01_t h1]
    refine V_aload_n dX8_tellsHere_5 rfl ?_
    refine V_callV (ci := 8) (qX8_figuresW n mr hR hn a ha5 T E hE _ (pLit T E (xB k) (xL k) 0 p).1 hlit.2.1 hSt.go setWP_8) dX8_tellsHere_6 mlX8_107 mtX8_figures ivX8_figures rfl rfl ⟨by omega, by omega⟩ (by decide) rfl rfl (by decide) (Nat.le_of_ble_eq_true rfl) rfl rfl ?_
    rintro _ _ _ _ ⟨rfl, rfl, rfl, rfl⟩
    refine V_istore_n (L' := [_, _, _, _]) dX8_tellsHere_9 (by decide) rfl rfl ?_
    refine V_aload_n dX8_tellsHere_10 rfl ?_
    refine V_geti 8 8 dX8_tellsHere_11 (Or.inl lkX8_63) rfl rfl ⟨by omega, by omega⟩ ?_
    rw [setWP_8]
    refine V_if_ne (tgt := 29) dX8_tellsHere_14 (by decide) (fun c14 => ?_) (fun c14 => absurd c14 (by decide))
    refine V_ret dX8_tellsHere_29 rfl ?_
    rw [hl]
    exact ⟨rfl, rfl, rfl, offPm_c wp_off, setWP_6, setWP_k (by decide), setWP_8⟩
set_option maxRecDepth 4000 in
theorem qX8_much (n : Nat) (mr : MR) (hR : RF mr) (hn : 186 ≤ n) (a : Nat) (ha5 : a < 5) (T : Nat → Int32) (E : Nat) (hE : E ≤ 100) (mi : MI) (p : Nat) (hp : p ≤ E) (hSt : MdS mi a T E p) (h8 : mi 173 8 = 0) (h9 : mi 173 9 = nI 0) (W : List Int32) (hWR : WR mi a W) (hWp : W.length ≤ p) (k : Nat) (hk : k < 8) (tag : Nat) (kd : Int32) : Ct KX8_much 30 0 0 [.ref 173, .int kd, .ref (4 + k)] n mi mr (PostX (litE T E k tag p) n mi mr a (fun c mj => WR mj a (W ++ (c.2.2.map tokM ++ [kd - nI c.2.1])) ∧ ∀ j, ¬ (j = 233 + a ∨ (238 + 140 * a ≤ j ∧ j < 378 + 140 * a)) → mj 174 j = mi 174 j)) := by
  refine Ct.of2 [some (.ref 173), some (.int kd), some (.ref (4 + k)), none] (by decide +kernel) (Nat.le_of_ble_eq_true rfl) rfl ?_
  have hlit := lit_ok (T := T) (E := E) hk hp
  have hl : litE T E k tag p = if (pLit T E (xB k) (xL k) 0 p).2 = true then bindP (pNum T E (pLit T E (xB k) (xL k) 0 p).1) (fun q v => if tk T E q = 32 then bindP (som T E (fac T E 5) (q + 1)) (fun u l => (u, some (tag, v, l))) else (q, none)) else ((pLit T E (xB k) (xL k) 0 p).1, none) := rfl
  refine V_aload_n dX8_much_0 rfl ?_
  refine V_aload_n dX8_much_1 rfl ?_
  refine V_callV (ci := 8) (qX8_spells n mr hR hn a ha5 T E hE mi p hp hSt h8 k hk) dX8_much_2 mlX8_113 mtX8_spells ivX8_spells rfl rfl ⟨by omega, by omega⟩ (by decide) rfl rfl (by decide) (Nat.le_of_ble_eq_true rfl) rfl rfl ?_
  rintro _ _ _ _ ⟨rfl, rfl, rfl, rfl⟩
  by_cases h1 : (pLit T E (xB k) (xL k) 0 p).2 = true
  · rw [if_pos h1] at hl
    rw [b01_f (fun h => h h1)]
    have hnum := pNum_ok (T := T) (E := E) (p := (pLit T E (xB k) (xL k) 0 p).1) hlit.2.1
    refine V_aload_n dX8_much_5 rfl ?_
    refine V_callV (ci := 8) (qX8_figures n mr hR hn a ha5 T E hE _ (pLit T E (xB k) (xL k) 0 p).1 hlit.2.1 hSt.go setWP_8) dX8_much_6 mlX8_107 mtX8_figures ivX8_figures rfl rfl ⟨by omega, by omega⟩ (by decide) rfl rfl (by decide) (Nat.le_of_ble_eq_true rfl) rfl rfl ?_
    rintro _ _ _ _ ⟨rfl, rfl, rfl, rfl⟩
    rw [setWP_2]
    cases hn9 : pNum T E (pLit T E (xB k) (xL k) 0 p).1 with
    | mk q o9 =>
      rw [hn9] at hnum hl
      have hqE : q ≤ E := hnum.1.2
      cases o9 with
      | none =>
        rw [b01_t rfl]
        refine V_istore_n (L' := [_, _, _, _]) dX8_much_9 (by decide) rfl rfl ?_
        refine V_aload_n dX8_much_10 rfl ?_
        refine V_bipush (v := 32) dX8_much_11 rfl ?_
        refine V_callV (ci := 8) (qX8_mustW n mr hR hn a ha5 T E hE _ q hqE hSt.go setWP_8 _) dX8_much_13 mlX8_80 mtX8_must ivX8_must rfl rfl ⟨by omega, by omega⟩ (by decide) rfl rfl (by decide) (Nat.le_of_ble_eq_true rfl) rfl rfl ?_
        rintro _ _ _ _ ⟨rfl, rfl, rfl, rfl⟩
        refine V_aload_n dX8_much_16 rfl ?_
        refine V_callV (ci := 8) (qX8_someW n _ mr hR hn setWP_8) dX8_much_17 mlX8_96 mtX8_some ivX8_some rfl rfl ⟨by omega, by omega⟩ (by decide) rfl rfl (by decide) (Nat.le_of_ble_eq_true rfl) rfl rfl ?_
        rintro _ _ _ _ ⟨rfl, rfl, rfl, rfl⟩
        refine V_aload_n dX8_much_20 rfl ?_
        refine V_iload_n dX8_much_21 rfl ?_
        refine V_iload_n dX8_much_22 rfl ?_
        refine V_isub dX8_much_23 ?_
        refine V_callV (ci := 8) (qX8_emitsW n mr hR hn a ha5 T E hE _ setWP_8 _) dX8_much_24 mlX8_93 mtX8_emits ivX8_emits rfl rfl ⟨by omega, by omega⟩ (by decide) rfl rfl (by decide) (Nat.le_of_ble_eq_true rfl) rfl rfl ?_
        rintro _ _ _ _ ⟨rfl, rfl, rfl, rfl⟩
        refine V_ret dX8_much_27 rfl ?_
        rw [hl]
        exact ⟨rfl, rfl, rfl, offPm_c wp_off, setWP_6, setWP_k (by decide), setWP_8⟩
      | some v =>
        rw [b01_f (c := (q, some v).2 = none) (fun h => by cases h)]
        have hSq : MdS (setWP mi 0 q) a T E q := hSt.go
        have hv := hnum.2 v rfl
        have hv1 : p + 1 ≤ q := Nat.le_trans (Nat.succ_le_succ hlit.1) hv.1
        have hl : litE T E k tag p = if tk T E q = 32 then bindP (som T E (fac T E 5) (q + 1)) (fun u l => (u, some (tag, v, l))) else (q, none) := hl
        refine V_istore_n (L' := [_, _, _, _]) dX8_much_9 (by decide) rfl rfl ?_
        refine V_aload_n dX8_much_10 rfl ?_
        refine V_bipush (v := 32) dX8_much_11 rfl ?_
        refine V_callV (ci := 8) (qX8_must n mr hR hn a ha5 T E hE _ q hqE hSq setWP_8 32) dX8_much_13 mlX8_80 mtX8_must ivX8_must rfl rfl ⟨by omega, by omega⟩ (by decide) rfl rfl (by decide) (Nat.le_of_ble_eq_true rfl) rfl rfl ?_
        rintro _ _ _ _ ⟨rfl, rfl, rfl, rfl⟩
        rw [setWP_2]
        by_cases h32 : tk T E q = 32
        · have hqE1 := tk_is h32 (by decide)
          rw [if_pos h32] at hl
          rw [if_pos h32, b01_f (c := ¬ tk T E q = 32) (fun h => h h32)]
          have hF := qX8_factor n mr hR hn a ha5 T E hE 5 (by decide)
          have hS := qX8_some n mr hR hn a ha5 T E hE 5 (by decide) (qX8_every n mr hR hn a ha5 T E hE 5 (by decide) hF)
          refine V_aload_n dX8_much_16 rfl ?_
          refine V_callV (ci := 8) (hS _ (q + 1) W (by omega) hSt.go setWP_8 (by rw [setWP_k (by decide)]; exact h9) (hWR.off (setWP_row (by decide))) (by omega)) dX8_much_17 mlX8_96 mtX8_some ivX8_some rfl rfl ⟨by omega, by omega⟩ (by decide) rfl rfl (by decide) (Nat.le_of_ble_eq_true rfl) rfl rfl ?_
          rintro _ _ m1 _ ⟨rfl, rfl, rfl, ho1, hq1, h9n, hres⟩
          have hg0 := som_ok (T := T) (F := fac T E 5) (fun p hp => fac_ok (r := 5) hp) (p := q + 1) (by omega : q + 1 ≤ E)
          have h9f : m1 173 9 = mi 173 9 := h9n.trans (setWP_k (by decide))
          cases hr9 : som T E (fac T E 5) (q + 1) with
          | mk u o9 =>
            rw [hr9] at hg0 hq1 hres hl
            have huE : u ≤ E := hg0.1.2
            cases o9 with
            | none =>
              have hres : m1 173 8 = 1 := hres
              refine V_aload_n dX8_much_20 rfl ?_
              refine V_iload_n dX8_much_21 rfl ?_
              refine V_iload_n dX8_much_22 rfl ?_
              refine V_isub dX8_much_23 ?_
              refine V_callV (ci := 8) (qX8_emitsW n mr hR hn a ha5 T E hE m1 hres _) dX8_much_24 mlX8_93 mtX8_emits ivX8_emits rfl rfl ⟨by omega, by omega⟩ (by decide) rfl rfl (by decide) (Nat.le_of_ble_eq_true rfl) rfl rfl ?_
              rintro _ _ _ _ ⟨rfl, rfl, rfl, rfl⟩
              refine V_ret dX8_much_27 rfl ?_
              rw [hl]
              exact ⟨rfl, rfl, rfl, offPm_c (wp_off.tr ho1), hq1, h9f, hres⟩
            | some l =>
              obtain ⟨hres, hs⟩ := hres
              obtain ⟨g1, g2, g3, g4⟩ := hg0.2 l rfl
              have g2 : q + 1 + l.length ≤ u := g2
              have hlen : (W ++ l.map tokM).length < 140 := by
                simp only [List.length_append, List.length_map]
                omega
              have hl : litE T E k tag p = (u, some (tag, v, l)) := hl
              have hw := addR_wr (x := kd - nI v) hs ha5
              have hoa : Off (offPm a) mi (addR m1 a (W ++ l.map tokM).length (kd - nI v)) := (wp_off.tr ho1).tr (addR_off hlen)
              refine V_aload_n dX8_much_20 rfl ?_
              refine V_iload_n dX8_much_21 rfl ?_
              refine V_iload_n dX8_much_22 rfl ?_
              refine V_isub dX8_much_23 ?_
              refine V_callV (ci := 8) (qX8_emits n mr hR hn a ha5 T E hE m1 (hSt.go.off hE ho1 hq1).1 hres _ hlen hs.1 _) dX8_much_24 mlX8_93 mtX8_emits ivX8_emits rfl rfl ⟨by omega, by omega⟩ (by decide) rfl rfl (by decide) (Nat.le_of_ble_eq_true rfl) rfl rfl ?_
              rintro _ _ _ _ ⟨rfl, rfl, rfl, rfl⟩
              refine V_ret dX8_much_27 rfl ?_
              rw [hl]
              refine ⟨rfl, rfl, rfl, offPm_c hoa, by rw [addR_173]; exact hq1, by rw [addR_173]; exact h9f, by rw [addR_173]; exact hres, hw.as (List.append_assoc _ _ _), fun j hj => ?_⟩
              exact hoa 174 j (by unfold offPm; omega)
        · rw [if_neg h32] at hl
          rw [if_neg h32, b01_t h32]
          refine V_aload_n dX8_much_16 rfl ?_
          refine V_callV (ci := 8) (qX8_someW n _ mr hR hn setWP_8) dX8_much_17 mlX8_96 mtX8_some ivX8_some rfl rfl ⟨by omega, by omega⟩ (by decide) rfl rfl (by decide) (Nat.le_of_ble_eq_true rfl) rfl rfl ?_
          rintro _ _ _ _ ⟨rfl, rfl, rfl, rfl⟩
          refine V_aload_n dX8_much_20 rfl ?_
          refine V_iload_n dX8_much_21 rfl ?_
          refine V_iload_n dX8_much_22 rfl ?_
          refine V_isub dX8_much_23 ?_
          refine V_callV (ci := 8) (qX8_emitsW n mr hR hn a ha5 T E hE _ setWP_8 _) dX8_much_24 mlX8_93 mtX8_emits ivX8_emits rfl rfl ⟨by omega, by omega⟩ (by decide) rfl rfl (by decide) (Nat.le_of_ble_eq_true rfl) rfl rfl ?_
          rintro _ _ _ _ ⟨rfl, rfl, rfl, rfl⟩
          refine V_ret dX8_much_27 rfl ?_
          rw [hl]
          exact ⟨rfl, rfl, rfl, offPm_c wp_off, setWP_6, setWP_k (by decide), setWP_8⟩
  · rw [if_neg h1] at hl
    rw [b01_t h1]
    refine V_aload_n dX8_much_5 rfl ?_
    refine V_callV (ci := 8) (qX8_figuresW n mr hR hn a ha5 T E hE _ (pLit T E (xB k) (xL k) 0 p).1 hlit.2.1 hSt.go setWP_8) dX8_much_6 mlX8_107 mtX8_figures ivX8_figures rfl rfl ⟨by omega, by omega⟩ (by decide) rfl rfl (by decide) (Nat.le_of_ble_eq_true rfl) rfl rfl ?_
    rintro _ _ _ _ ⟨rfl, rfl, rfl, rfl⟩
    refine V_istore_n (L' := [_, _, _, _]) dX8_much_9 (by decide) rfl rfl ?_
    refine V_aload_n dX8_much_10 rfl ?_
    refine V_bipush (v := 32) dX8_much_11 rfl ?_
    refine V_callV (ci := 8) (qX8_mustW n mr hR hn a ha5 T E hE _ (pLit T E (xB k) (xL k) 0 p).1 hlit.2.1 hSt.go setWP_8 _) dX8_much_13 mlX8_80 mtX8_must ivX8_must rfl rfl ⟨by omega, by omega⟩ (by decide) rfl rfl (by decide) (Nat.le_of_ble_eq_true rfl) rfl rfl ?_
    rintro _ _ _ _ ⟨rfl, rfl, rfl, rfl⟩
    refine V_aload_n dX8_much_16 rfl ?_
    refine V_callV (ci := 8) (qX8_someW n _ mr hR hn setWP_8) dX8_much_17 mlX8_96 mtX8_some ivX8_some rfl rfl ⟨by omega, by omega⟩ (by decide) rfl rfl (by decide) (Nat.le_of_ble_eq_true rfl) rfl rfl ?_
    rintro _ _ _ _ ⟨rfl, rfl, rfl, rfl⟩
    refine V_aload_n dX8_much_20 rfl ?_
    refine V_iload_n dX8_much_21 rfl ?_
    refine V_iload_n dX8_much_22 rfl ?_
    refine V_isub dX8_much_23 ?_
    refine V_callV (ci := 8) (qX8_emitsW n mr hR hn a ha5 T E hE _ setWP_8 _) dX8_much_24 mlX8_93 mtX8_emits ivX8_emits rfl rfl ⟨by omega, by omega⟩ (by decide) rfl rfl (by decide) (Nat.le_of_ble_eq_true rfl) rfl rfl ?_
    rintro _ _ _ _ ⟨rfl, rfl, rfl, rfl⟩
    refine V_ret dX8_much_27 rfl ?_
    rw [hl]
    exact ⟨rfl, rfl, rfl, offPm_c wp_off, setWP_6, setWP_k (by decide), setWP_8⟩
theorem lit_sh {T : Nat → Int32} {E p k k' i m c : Nat} (hm : xL k = m + 1) (hm' : xL k' = m) (hc : tk T E p = xB k 0) (h : ∀ j, j < m → xB k (1 + j) = xB k' (0 + j)) : pLit T E (xB k) (xL k) 0 p = pLit T E (xB k') (xL k') 0 (p + 1) := by
  rw [hm, hm']
  show (if tk T E p = xB k 0 then pLit T E (xB k) m 1 (p + 1) else (p, false)) = _
  rw [if_pos hc]
  exact pLit_shift h
theorem sh_dec : (∀ j : Fin 5, xB 6 (1 + j.1) = xB 0 (0 + j.1)) ∧ (∀ j : Fin 3, xB 2 (1 + j.1) = xB 1 (0 + j.1)) ∧ (∀ j : Fin 4, xB 7 (1 + j.1) = xB 2 (0 + j.1)) := by decide +kernel
theorem litN_g {T : Nat → Int32} {E p : Nat} (h : tk T E p = 103) : litN T E 6 0 p = litN T E 0 0 (p + 1) := by
  unfold litN
  rw [lit_sh (k := 6) (k' := 0) (i := 0) (c := 0) (m := 5) rfl rfl (h.trans (by decide)) (fun j hj => sh_dec.1 ⟨j, hj⟩)]
theorem litN_o {T : Nat → Int32} {E p : Nat} (h : tk T E p = 111) : litN T E 2 1 p = litN T E 1 1 (p + 1) := by
  unfold litN
  rw [lit_sh (k := 2) (k' := 1) (i := 0) (c := 0) (m := 3) rfl rfl (h.trans (by decide)) (fun j hj => sh_dec.2.1 ⟨j, hj⟩)]
theorem litE_b {T : Nat → Int32} {E p : Nat} (h : tk T E p = 98) : litE T E 7 2 p = litE T E 2 2 (p + 1) := by
  unfold litE
  rw [lit_sh (k := 7) (k' := 2) (i := 0) (c := 0) (m := 4) rfl rfl (h.trans (by decide)) (fun j hj => sh_dec.2.2 ⟨j, hj⟩)]
theorem litE_no {T : Nat → Int32} {E p : Nat} (h : ¬ tk T E p = 109) : litE T E 3 3 p = (p, none) := by
  have e : pLit T E (xB 3) (xL 3) 0 p = (p, false) := by
    show (if tk T E p = xB 3 0 then pLit T E (xB 3) 4 1 (p + 1) else (p, false)) = _
    rw [if_neg (fun q => h (q.trans (by decide)))]
  unfold litE
  rw [e]
  rfl
theorem litN_tag {T : Nat → Int32} {E k tag p : Nat} {c : CL} (h : (litN T E k tag p).2 = some c) : c.1 = tag := by
  unfold litN at h
  split at h
  · cases e : pNum T E (pLit T E (xB k) (xL k) 0 p).1 with
    | mk q o =>
      rw [e] at h
      cases o with
      | none => cases h
      | some v =>
        have h2 := Option.some.inj h
        rw [← h2]
  · cases h
theorem litE_tag {T : Nat → Int32} {E k tag p : Nat} {c : CL} (h : (litE T E k tag p).2 = some c) : c.1 = tag := by
  unfold litE at h
  split at h
  · cases e : pNum T E (pLit T E (xB k) (xL k) 0 p).1 with
    | mk q o =>
      rw [e] at h
      cases o with
      | none => cases h
      | some v =>
        have h : (if tk T E q = 32 then bindP (som T E (fac T E 5) (q + 1)) (fun u l => ((u, some (tag, v, l)) : Nat × Option CL)) else (q, none)).2 = some c := h
        split at h
        · cases e2 : som T E (fac T E 5) (q + 1) with
          | mk u o2 =>
            rw [e2] at h
            cases o2 with
            | none => cases h
            | some l =>
              have h2 := Option.some.inj h
              rw [← h2]
        · cases h
  · cases h
set_option maxRecDepth 4000 in
theorem qX8_clauseHere (n : Nat) (mr : MR) (hR : RF mr) (hn : 186 ≤ n) (a : Nat) (ha5 : a < 5) (T : Nat → Int32) (E : Nat) (hE : E ≤ 100) (mi : MI) (p : Nat) (hp : p ≤ E) (hSt : MdS mi a T E p) (h8 : mi 173 8 = 0) (h9 : mi 173 9 = nI 0) (cs : List CL) (hRS : RS mi a cs) (hWp : (refK cs).length ≤ p) : Ct KX8_clauseHere 31 0 0 [.ref 173] n mi mr (PostX (pCla T E p) n mi mr a (fun c mj => RS mj a (cs ++ [c]))) := by
  refine Ct.of2 [some (.ref 173)] (by decide +kernel) (Nat.le_of_ble_eq_true rfl) rfl ?_
  have hcl : pCla T E p = if tk T E p = 103 then litN T E 0 0 (p + 1) else if tk T E p = 111 then litN T E 1 1 (p + 1) else if tk T E p = 98 then litE T E 2 2 (p + 1) else litE T E 3 3 p := rfl
  obtain ⟨hWR, hgr, hol⟩ := hRS
  refine V_aload_n dX8_clauseHere_0 rfl ?_
  refine V_callV (ci := 8) (qX8_here n mr hR hn a ha5 T E hE mi p hp hSt) dX8_clauseHere_1 mlX8_67 mtX8_here ivX8_here rfl rfl ⟨by omega, by omega⟩ (by decide) rfl rfl (by decide) (Nat.le_of_ble_eq_true rfl) rfl rfl ?_
  rintro _ _ _ _ ⟨rfl, rfl, rfl, rfl⟩
  by_cases e103 : tk T E p = 103
  · rw [if_pos e103, ← litN_g e103] at hcl
    refine V_lookup (off := 44) (tgt := 48) dX8_clauseHere_4 (by decide) (by rw [e103]; decide) (by decide) ?_
    refine V_aload_n dX8_clauseHere_48 rfl ?_
    refine V_sipush (v := 223) dX8_clauseHere_49 rfl ?_
    refine V_ldcs (k := 6) dX8_clauseHere_52 (fun _ _ h => h.2.2.2.2.2.2.1) (by decide) ?_
    refine V_callV (ci := 8) (qX8_tellsHere n mr hR hn a ha5 T E hE mi p hp hSt h8 6 (by decide) 0 223 (Or.inl rfl) _ rfl) dX8_clauseHere_54 mlX8_119 mtX8_tellsHere ivX8_tellsHere rfl rfl ⟨by omega, by omega⟩ (by decide) rfl rfl (by decide) (Nat.le_of_ble_eq_true rfl) rfl rfl ?_
    rintro _ _ m1 _ ⟨rfl, rfl, rfl, ho1, hq1, h9n, hres⟩
    rw [← hcl] at hq1 hres
    refine V_goto (tgt := 100) dX8_clauseHere_57 (by decide) ?_
    refine V_ret dX8_clauseHere_100 rfl ?_
    have hc1 : ∀ c : CL, (pCla T E p).2 = some c → c.1 = 0 := fun c h => litN_tag (T := T) (E := E) (k := 6) (tag := 0) (p := p) (by rw [← hcl]; exact h)
    cases he : (pCla T E p).2 with
    | none =>
      rw [he] at hres
      exact ⟨rfl, rfl, rfl, ho1, hq1, h9n, by rw [he]; exact hres⟩
    | some c =>
      rw [he] at hres
      obtain ⟨h8n, hv, hoth⟩ := hres
      have ht : c.1 = 0 := hc1 c he
      refine ⟨rfl, rfl, rfl, ho1, hq1, h9n, ?_⟩
      rw [he]
      refine ⟨h8n, ?_, ?_, ?_⟩
      · rw [refK_app, show refC c = [] from if_neg (by omega), List.append_nil]
        unfold WR
        rw [hoth (233 + a) (by omega)]
        exact ⟨hWR.1, fun j hj => by rw [hoth _ (by omega)]; exact hWR.2 j hj⟩
      · rw [grownL_app, if_pos ht]
        exact hv
      · rw [oldL_app, if_neg (by omega)]
        rw [hoth _ (by omega)]; exact hol
  by_cases e111 : tk T E p = 111
  · rw [if_neg e103, if_pos e111, ← litN_o e111] at hcl
    refine V_lookup (off := 56) (tgt := 60) dX8_clauseHere_4 (by decide) (by rw [e111]; decide) (by decide) ?_
    refine V_aload_n dX8_clauseHere_60 rfl ?_
    refine V_sipush (v := 228) dX8_clauseHere_61 rfl ?_
    refine V_ldcs (k := 2) dX8_clauseHere_64 (fun _ _ h => h.2.2.2.2.2.2.2.1) (by decide) ?_
    refine V_callV (ci := 8) (qX8_tellsHere n mr hR hn a ha5 T E hE mi p hp hSt h8 2 (by decide) 1 228 (Or.inr rfl) _ rfl) dX8_clauseHere_66 mlX8_119 mtX8_tellsHere ivX8_tellsHere rfl rfl ⟨by omega, by omega⟩ (by decide) rfl rfl (by decide) (Nat.le_of_ble_eq_true rfl) rfl rfl ?_
    rintro _ _ m1 _ ⟨rfl, rfl, rfl, ho1, hq1, h9n, hres⟩
    rw [← hcl] at hq1 hres
    refine V_goto (tgt := 100) dX8_clauseHere_69 (by decide) ?_
    refine V_ret dX8_clauseHere_100 rfl ?_
    have hc1 : ∀ c : CL, (pCla T E p).2 = some c → c.1 = 1 := fun c h => litN_tag (T := T) (E := E) (k := 2) (tag := 1) (p := p) (by rw [← hcl]; exact h)
    cases he : (pCla T E p).2 with
    | none =>
      rw [he] at hres
      exact ⟨rfl, rfl, rfl, ho1, hq1, h9n, by rw [he]; exact hres⟩
    | some c =>
      rw [he] at hres
      obtain ⟨h8n, hv, hoth⟩ := hres
      have ht : c.1 = 1 := hc1 c he
      refine ⟨rfl, rfl, rfl, ho1, hq1, h9n, ?_⟩
      rw [he]
      refine ⟨h8n, ?_, ?_, ?_⟩
      · rw [refK_app, show refC c = [] from if_neg (by omega), List.append_nil]
        unfold WR
        rw [hoth (233 + a) (by omega)]
        exact ⟨hWR.1, fun j hj => by rw [hoth _ (by omega)]; exact hWR.2 j hj⟩
      · rw [grownL_app, if_neg (by omega)]
        rw [hoth _ (by omega)]; exact hgr
      · rw [oldL_app, if_pos ht]
        exact hv
  by_cases e98 : tk T E p = 98
  · rw [if_neg e103, if_neg e111, if_pos e98, ← litE_b e98] at hcl
    refine V_lookup (off := 68) (tgt := 72) dX8_clauseHere_4 (by decide) (by rw [e98]; decide) (by decide) ?_
    refine V_aload_n dX8_clauseHere_72 rfl ?_
    refine V_bipush (v := -10) dX8_clauseHere_73 rfl ?_
    refine V_ldcs (k := 7) dX8_clauseHere_75 (fun _ _ h => h.2.2.2.2.2.2.2.2.1) (by decide) ?_
    refine V_callV (ci := 8) (qX8_much n mr hR hn a ha5 T E hE mi p hp hSt h8 h9 _ hWR hWp 7 (by decide) 2 (-10)) dX8_clauseHere_77 mlX8_127 mtX8_much ivX8_much rfl rfl ⟨by omega, by omega⟩ (by decide) rfl rfl (by decide) (Nat.le_of_ble_eq_true rfl) rfl rfl ?_
    rintro _ _ m1 _ ⟨rfl, rfl, rfl, ho1, hq1, h9n, hres⟩
    rw [← hcl] at hq1 hres
    refine V_goto (tgt := 100) dX8_clauseHere_80 (by decide) ?_
    refine V_ret dX8_clauseHere_100 rfl ?_
    have hc1 : ∀ c : CL, (pCla T E p).2 = some c → c.1 = 2 := fun c h => litE_tag (T := T) (E := E) (k := 7) (tag := 2) (p := p) (by rw [← hcl]; exact h)
    cases he : (pCla T E p).2 with
    | none =>
      rw [he] at hres
      exact ⟨rfl, rfl, rfl, ho1, hq1, h9n, by rw [he]; exact hres⟩
    | some c =>
      rw [he] at hres
      obtain ⟨h8n, hv, hoth⟩ := hres
      have ht : c.1 = 2 := hc1 c he
      refine ⟨rfl, rfl, rfl, ho1, hq1, h9n, ?_⟩
      rw [he]
      refine ⟨h8n, ?_, ?_, ?_⟩
      · rw [refK_app, show refC c = c.2.2.map tokM ++ [markM c] from if_pos (by omega), show markM c = -10 - nI c.2.1 by unfold markM; rw [if_pos ht]]
        exact hv
      · rw [grownL_app, if_neg (by omega), hoth _ (by omega)]
        exact hgr
      · rw [oldL_app, if_neg (by omega), hoth _ (by omega)]
        exact hol
  by_cases e109 : tk T E p = 109
  · rw [if_neg e103, if_neg e111, if_neg e98] at hcl
    refine V_lookup (off := 79) (tgt := 83) dX8_clauseHere_4 (by decide) (by rw [e109]; decide) (by decide) ?_
    refine V_aload_n dX8_clauseHere_83 rfl ?_
    refine V_sipush (v := -200) dX8_clauseHere_84 rfl ?_
    refine V_ldcs (k := 3) dX8_clauseHere_87 (fun _ _ h => h.2.2.2.2.2.2.2.2.2.2.2) (by decide) ?_
    refine V_callV (ci := 8) (qX8_much n mr hR hn a ha5 T E hE mi p hp hSt h8 h9 _ hWR hWp 3 (by decide) 3 (-200)) dX8_clauseHere_89 mlX8_127 mtX8_much ivX8_much rfl rfl ⟨by omega, by omega⟩ (by decide) rfl rfl (by decide) (Nat.le_of_ble_eq_true rfl) rfl rfl ?_
    rintro _ _ m1 _ ⟨rfl, rfl, rfl, ho1, hq1, h9n, hres⟩
    rw [← hcl] at hq1 hres
    refine V_goto (tgt := 100) dX8_clauseHere_92 (by decide) ?_
    refine V_ret dX8_clauseHere_100 rfl ?_
    have hc1 : ∀ c : CL, (pCla T E p).2 = some c → c.1 = 3 := fun c h => litE_tag (T := T) (E := E) (k := 3) (tag := 3) (p := p) (by rw [← hcl]; exact h)
    cases he : (pCla T E p).2 with
    | none =>
      rw [he] at hres
      exact ⟨rfl, rfl, rfl, ho1, hq1, h9n, by rw [he]; exact hres⟩
    | some c =>
      rw [he] at hres
      obtain ⟨h8n, hv, hoth⟩ := hres
      have ht : c.1 = 3 := hc1 c he
      refine ⟨rfl, rfl, rfl, ho1, hq1, h9n, ?_⟩
      rw [he]
      refine ⟨h8n, ?_, ?_, ?_⟩
      · rw [refK_app, show refC c = c.2.2.map tokM ++ [markM c] from if_pos (by omega), show markM c = -200 - nI c.2.1 by unfold markM; rw [if_neg (by omega)]]
        exact hv
      · rw [grownL_app, if_neg (by omega), hoth _ (by omega)]
        exact hgr
      · rw [oldL_app, if_neg (by omega), hoth _ (by omega)]
        exact hol
  rw [if_neg e103, if_neg e111, if_neg e98, litE_no e109] at hcl
  have hoff : Op.lookupswitch.offset [(98, 68), (103, 44), (109, 79), (111, 56)] 91 (tk T E p).toInt = 91 := by
    have g1 : ¬ (tk T E p).toInt = 98 := fun h => e98 (Int32.toInt_inj.mp h)
    have g2 : ¬ (tk T E p).toInt = 103 := fun h => e103 (Int32.toInt_inj.mp h)
    have g3 : ¬ (tk T E p).toInt = 109 := fun h => e109 (Int32.toInt_inj.mp h)
    have g4 : ¬ (tk T E p).toInt = 111 := fun h => e111 (Int32.toInt_inj.mp h)
    simp [Op.lookupswitch.offset, g1, g2, g3, g4, Ne.symm g1, Ne.symm g2, Ne.symm g3, Ne.symm g4]
  refine V_lookup (off := 91) (tgt := 95) dX8_clauseHere_4 (by decide) hoff (by decide) ?_
  refine V_aload_n dX8_clauseHere_95 rfl ?_
  refine V_iconst (v := 1) dX8_clauseHere_96 rfl ?_
  refine V_puti 8 8 dX8_clauseHere_97 (Or.inl lkX8_63) rfl rfl rfl rfl ⟨by omega, by omega⟩ ?_
  refine V_ret dX8_clauseHere_100 rfl ?_
  rw [hcl]
  exact ⟨rfl, rfl, rfl, offPm_c (by rw [wp_f hSt.2.2.1]; exact wp_off), by rw [up2_k (by decide)]; exact hSt.2.2.1, up2_k (by decide), up2_s⟩
