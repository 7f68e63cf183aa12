/-- what holds of clauses that were read up to q -/
def goodV (q : Nat) (cs : List CL) : Prop := (flatK cs).length + cs.length ≤ q ∧ ∀ c, c ∈ cs → c.1 < 4 ∧ c.2.1 ≤ 99 ∧ (c.1 < 2 → c.2.2 = []) ∧ (2 ≤ c.1 → (∀ x, x ∈ c.2.2 → okStep x) ∧ dpl c.2.2 0 = some 1)
theorem goodV.snoc {p q : Nat} {cs : List CL} {c : CL} (h : goodV p cs) (hc : goodC p q c) : goodV q (cs ++ [c]) := by
  obtain ⟨h1, h2⟩ := h
  obtain ⟨c1, c2, c3⟩ := hc
  refine ⟨?_, fun x hx => ?_⟩
  · rw [flatK_app, List.length_append, List.length_append, List.length_singleton]
    omega
  · rcases List.mem_append.mp hx with hx | hx
    · exact h2 x hx
    · rw [List.mem_singleton.mp hx]
      exact c3
theorem goodV.mono {p q : Nat} {cs : List CL} (h : goodV p cs) (hq : p ≤ q) : goodV q cs := ⟨Nat.le_trans h.1 hq, h.2⟩
theorem vilL_ok {T : Nat → Int32} {E : Nat} : ∀ {k : Nat} {a : List CL} {p : Nat}, p ≤ E → goodV p a → (p ≤ (vilL T E k a p).1 ∧ (vilL T E k a p).1 ≤ E) ∧ ∀ cs, (vilL T E k a p).2 = some cs → goodV E cs ∧ cs.length ≤ a.length + k
  | 0, a, p, hp, _ => ⟨⟨Nat.le_refl _, hp⟩, fun cs hc => by cases hc⟩
  | k + 1, a, p, hp, ha => by
    have h1 := pCla_ok (T := T) hp
    have e9 : vilL T E (k + 1) a p = bindP (pCla T E p) (fun q c => if q = E then (q, some (a ++ [c])) else if k = 0 ∨ ¬ tk T E q = 59 then (q, none) else vilL T E k (a ++ [c]) (q + 1)) := rfl
    cases e : pCla T E p with
    | mk q o =>
      rw [e] at h1 e9
      cases o with
      | none =>
        rw [e9]
        exact ⟨h1.1, fun cs hc => by cases hc⟩
      | some c =>
        have e9 : vilL T E (k + 1) a p = if q = E then (q, some (a ++ [c])) else if k = 0 ∨ ¬ tk T E q = 59 then (q, none) else vilL T E k (a ++ [c]) (q + 1) := e9
        have hg := ha.snoc (h1.2 c rfl)
        have hpq : p ≤ q := h1.1.1
        have hqE : q ≤ E := h1.1.2
        rw [e9]
        by_cases h2 : q = E
        · rw [if_pos h2]
          refine ⟨h1.1, fun cs hc => ?_⟩
          have e2 := Option.some.inj hc
          subst e2
          exact ⟨hg.mono hqE, by rw [List.length_append, List.length_singleton]; omega⟩
        · rw [if_neg h2]
          by_cases h3 : k = 0 ∨ ¬ tk T E q = 59
          · rw [if_pos h3]
            exact ⟨h1.1, fun cs hc => by cases hc⟩
          · rw [if_neg h3]
            have h4 : tk T E q = 59 := Classical.not_not.mp (fun h => h3 (Or.inr h))
            have h5 := tk_is h4 (by decide)
            have h6 := vilL_ok (T := T) (E := E) (k := k) (a := a ++ [c]) (p := q + 1) (by omega) (hg.mono (Nat.le_succ q))
            refine ⟨⟨by omega, h6.1.2⟩, fun cs hc => ?_⟩
            have h7 := h6.2 cs hc
            rw [List.length_append, List.length_singleton] at h7
            exact ⟨h7.1, by omega⟩
theorem goodV_nil : goodV 0 [] := ⟨Nat.le_refl _, fun c hc => absurd hc List.not_mem_nil⟩
theorem pVil_ok {T : Nat → Int32} {E : Nat} : (pVil T E).1 ≤ E ∧ ∀ cs, (pVil T E).2 = some cs → goodV E cs ∧ cs.length ≤ 10 := by
  have h := vilL_ok (T := T) (E := E) (k := 10) (a := []) (p := 0) (Nat.zero_le _) goodV_nil
  exact ⟨h.1.2, fun cs hc => by have := h.2 cs hc; rw [List.length_nil, Nat.zero_add] at this; exact this⟩
def ResL (o : Option (List CL)) (r : Option Value) (mi : MI) (va : Nat) : Prop := match o with
  | none => r = some (.int 0)
  | some cs => r = some (.int 1) ∧ VS mi va cs
def PostL (res : Nat × Option (List CL)) (n : Nat) (mi : MI) (mr : MR) (rd va : Nat) : QT := fun r n' mi' mr' => n = n' ∧ mr = mr' ∧ Off (offK rd va) mi mi' ∧ mi' rd 3 = nI res.1 ∧ ResL res.2 r mi' va
set_option maxRecDepth 4000 in
theorem qX2_readVillage (n : Nat) (mr : MR) (hR : RF mr) (hn : 186 ≤ n) (rd va : Nat) (hrd : 186 ≤ rd) (hrdn : rd < n) (hrd0 : mr rd 0 = some 44) (hrd2 : mr rd 2 = some va) (hva : isV va) (T : Nat → Int32) (E : Nat) (hE : E ≤ 100) (hT : ∀ j, j < E → 0 ≤ T j ∧ T j ≤ 127) (mi : MI) (hSt : RdS mi rd T E 0) : Ct KX2_readVillage 21 0 0 [.ref rd] n mi mr (PostL (pVil T E) n mi mr rd va) := by
  refine Ct.of2 [some (.ref rd), none] (by decide +kernel) (Nat.le_of_ble_eq_true rfl) rfl ?_
  have hge := hva.ge
  have hle := hva.le2
  have loop : ∀ (k : Nat) (p : Nat) (cs : List CL) (mj : MI) (u : Int32), cs.length + (k + 1) = 10 → p ≤ E → u.toInt = ((cs.length + 1 : Nat) : Int) → Off (offK rd va) mi mj → RdS mj rd T E p → VS mj va cs → goodV p cs → pVil T E = vilL T E (k + 1) cs p → V KX2_readVillage 21 0 0 (PostL (pVil T E) n mi mr rd va) 9 [some (.ref rd), some (.int u)] [] n mj mr := by
    intro k
    induction k with
    | zero =>
      intro p cs mj u hck hpE hu hoj hStj hVj hgo hR9
      have he9 : vilL T E (0 + 1) cs p = bindP (pCla T E p) (fun q c => if q = E then (q, some (cs ++ [c])) else if 0 = 0 ∨ ¬ tk T E q = 59 then (q, none) else vilL T E 0 (cs ++ [c]) (q + 1)) := rfl
      refine V_iload_n dX2_readVillage_9 rfl ?_
      refine V_bipush (v := 10) dX2_readVillage_10 rfl ?_
      refine V_icmp_gt (tgt := 60) dX2_readVillage_12 (by decide) (fun c12 => absurd ((lt_nat (x := 10) (a := 10) rfl hu).mp c12) (by omega)) (fun c12 => ?_)
      refine V_aload_n dX2_readVillage_15 rfl ?_
      refine V_callV (ci := 2) (qX2_readClause n mr hR hn rd va hrd hrdn hrd0 hrd2 hva T E hE hT mj p cs hpE hStj hVj (by have := hgo.1; omega) (by omega) (fun c hc => (hgo.2 c hc).2.2.1)) dX2_readVillage_16 mlX2_28 mtX2_readClause ivX2_readClause rfl (sRd hrd) ⟨by omega, by omega⟩ (by decide) rfl rfl (by decide) (Nat.le_of_ble_eq_true rfl) rfl rfl ?_
      rintro ro _ m1 _ ⟨rfl, rfl, ho1, hq1, hres⟩
      have hg0 := pCla_ok (T := T) hpE
      cases hr9 : pCla T E p with
      | mk q o9 =>
        rw [hr9] at hg0 hq1 hres he9
        have hqE : q ≤ E := hg0.1.2
        cases o9 with
        | none =>
          have hres : ro = some (.int 0) := hres
          subst hres
          refine V_if_ne (tgt := 24) dX2_readVillage_19 (by decide) (fun c19 => absurd rfl c19) (fun c19 => ?_)
          refine V_iconst (v := 0) dX2_readVillage_22 rfl ?_
          refine V_iret dX2_readVillage_23 rfl rfl ?_
          rw [hR9, he9]
          exact ⟨rfl, rfl, hoj.tr ho1, hq1, rfl⟩
        | some c =>
          obtain ⟨rfl, hs⟩ := hres
          have he9 : vilL T E (0 + 1) cs p = if q = E then (q, some (cs ++ [c])) else if 0 = 0 ∨ ¬ tk T E q = 59 then (q, none) else vilL T E 0 (cs ++ [c]) (q + 1) := he9
          have hgc := hgo.snoc (hg0.2 c rfl)
          have hSt1 : RdS m1 rd T E q := ⟨by rw [ho1 rd 1 (by unfold offK; omega)]; exact hStj.1, hq1, fun j hj => by rw [ho1 44 j (by unfold offK; omega)]; exact hStj.2.2 j hj⟩
          have hqi := hSt1.i hqE hE
          refine V_if_ne (tgt := 24) dX2_readVillage_19 (by decide) (fun c19 => ?_) (fun c19 => absurd c19 (by decide))
          refine V_aload_n dX2_readVillage_24 rfl ?_
          refine V_geti 2 3 dX2_readVillage_25 (Or.inl lkX2_32) rfl (sRd hrd) ⟨by omega, by omega⟩ ?_
          refine V_aload_n dX2_readVillage_28 rfl ?_
          refine V_geti 2 1 dX2_readVillage_29 (Or.inl lkX2_15) rfl (sRd hrd) ⟨by omega, by omega⟩ ?_
          refine V_icmp_ne (tgt := 37) dX2_readVillage_32 (by decide) (fun c32 => ?_) (fun c32 => ?_)
          · have ne : ¬ q = E := fun e => c32 ((eq_nat hqi hSt1.1).mpr e)
            rw [if_neg ne] at he9
            refine V_iload_n dX2_readVillage_37 rfl ?_
            refine V_bipush (v := 10) dX2_readVillage_38 rfl ?_
            refine V_icmp_eq (tgt := 52) dX2_readVillage_40 (by decide) (fun c40 => ?_) (fun c40 => absurd ((eq_nat hu (y := 10) (b := 10) rfl).mpr (by omega)) c40)
            refine V_iconst (v := 0) dX2_readVillage_52 rfl ?_
            refine V_iret dX2_readVillage_53 rfl rfl ?_
            first
              | (rw [if_pos (Or.inl rfl)] at he9
                 rw [hR9, he9]
                 exact ⟨rfl, rfl, hoj.tr ho1, hq1, rfl⟩)
              | (have e59 : ¬ tk T E q = 59 := b01_0.mp c49
                 rw [if_pos (Or.inr e59)] at he9
                 rw [hR9, he9, if_neg e59, up2_id hSt1.2.1]
                 exact ⟨rfl, rfl, hoj.tr ho1, hq1, rfl⟩)
          · refine V_iconst (v := 1) dX2_readVillage_35 rfl ?_
            refine V_iret dX2_readVillage_36 rfl rfl ?_
            have eq : q = E := (eq_nat hqi hSt1.1).mp c32
            rw [if_pos eq] at he9
            rw [hR9, he9]
            exact ⟨rfl, rfl, hoj.tr ho1, hq1, rfl, hs⟩
    | succ k ih =>
      intro p cs mj u hck hpE hu hoj hStj hVj hgo hR9
      have he9 : vilL T E (k + 1 + 1) cs p = bindP (pCla T E p) (fun q c => if q = E then (q, some (cs ++ [c])) else if k + 1 = 0 ∨ ¬ tk T E q = 59 then (q, none) else vilL T E (k + 1) (cs ++ [c]) (q + 1)) := rfl
      refine V_iload_n dX2_readVillage_9 rfl ?_
      refine V_bipush (v := 10) dX2_readVillage_10 rfl ?_
      refine V_icmp_gt (tgt := 60) dX2_readVillage_12 (by decide) (fun c12 => absurd ((lt_nat (x := 10) (a := 10) rfl hu).mp c12) (by omega)) (fun c12 => ?_)
      refine V_aload_n dX2_readVillage_15 rfl ?_
      refine V_callV (ci := 2) (qX2_readClause n mr hR hn rd va hrd hrdn hrd0 hrd2 hva T E hE hT mj p cs hpE hStj hVj (by have := hgo.1; omega) (by omega) (fun c hc => (hgo.2 c hc).2.2.1)) dX2_readVillage_16 mlX2_28 mtX2_readClause ivX2_readClause rfl (sRd hrd) ⟨by omega, by omega⟩ (by decide) rfl rfl (by decide) (Nat.le_of_ble_eq_true rfl) rfl rfl ?_
      rintro ro _ m1 _ ⟨rfl, rfl, ho1, hq1, hres⟩
      have hg0 := pCla_ok (T := T) hpE
      cases hr9 : pCla T E p with
      | mk q o9 =>
        rw [hr9] at hg0 hq1 hres he9
        have hqE : q ≤ E := hg0.1.2
        cases o9 with
        | none =>
          have hres : ro = some (.int 0) := hres
          subst hres
          refine V_if_ne (tgt := 24) dX2_readVillage_19 (by decide) (fun c19 => absurd rfl c19) (fun c19 => ?_)
          refine V_iconst (v := 0) dX2_readVillage_22 rfl ?_
          refine V_iret dX2_readVillage_23 rfl rfl ?_
          rw [hR9, he9]
          exact ⟨rfl, rfl, hoj.tr ho1, hq1, rfl⟩
        | some c =>
          obtain ⟨rfl, hs⟩ := hres
          have he9 : vilL T E (k + 1 + 1) cs p = if q = E then (q, some (cs ++ [c])) else if k + 1 = 0 ∨ ¬ tk T E q = 59 then (q, none) else vilL T E (k + 1) (cs ++ [c]) (q + 1) := he9
          have hgc := hgo.snoc (hg0.2 c rfl)
          have hSt1 : RdS m1 rd T E q := ⟨by rw [ho1 rd 1 (by unfold offK; omega)]; exact hStj.1, hq1, fun j hj => by rw [ho1 44 j (by unfold offK; omega)]; exact hStj.2.2 j hj⟩
          have hqi := hSt1.i hqE hE
          refine V_if_ne (tgt := 24) dX2_readVillage_19 (by decide) (fun c19 => ?_) (fun c19 => absurd c19 (by decide))
          refine V_aload_n dX2_readVillage_24 rfl ?_
          refine V_geti 2 3 dX2_readVillage_25 (Or.inl lkX2_32) rfl (sRd hrd) ⟨by omega, by omega⟩ ?_
          refine V_aload_n dX2_readVillage_28 rfl ?_
          refine V_geti 2 1 dX2_readVillage_29 (Or.inl lkX2_15) rfl (sRd hrd) ⟨by omega, by omega⟩ ?_
          refine V_icmp_ne (tgt := 37) dX2_readVillage_32 (by decide) (fun c32 => ?_) (fun c32 => ?_)
          · have ne : ¬ q = E := fun e => c32 ((eq_nat hqi hSt1.1).mpr e)
            rw [if_neg ne] at he9
            refine V_iload_n dX2_readVillage_37 rfl ?_
            refine V_bipush (v := 10) dX2_readVillage_38 rfl ?_
            refine V_icmp_eq (tgt := 52) dX2_readVillage_40 (by decide) (fun c40 => absurd ((eq_nat hu (y := 10) (b := 10) rfl).mp c40) (by omega)) (fun c40 => ?_)
            refine V_aload_n dX2_readVillage_43 rfl ?_
            refine V_bipush (v := 59) dX2_readVillage_44 rfl ?_
            refine V_callV (ci := 2) (qX2_takes n mr hR hn rd va hrd hrdn hrd0 hrd2 hva T E hE hT m1 q hqE hSt1 59 (by decide)) dX2_readVillage_46 mlX2_35 mtX2_takes ivX2_takes rfl (sRd hrd) ⟨by omega, by omega⟩ (by decide) rfl rfl (by decide) (Nat.le_of_ble_eq_true rfl) rfl rfl ?_
            rintro _ _ _ _ ⟨rfl, rfl, rfl, rfl⟩
            refine V_if_ne (tgt := 54) dX2_readVillage_49 (by decide) (fun c49 => ?_) (fun c49 => ?_)
            · have e59 : tk T E q = 59 := b01_n.mp c49
              have hq1E := tk_is e59 (by decide)
              rw [if_neg (fun h => h.elim (Nat.succ_ne_zero k) (fun g => g e59))] at he9
              rw [if_pos e59]
              refine V_iinc (v := _ + (1)) (L' := [_, _]) dX2_readVillage_54 (by decide) rfl rfl rfl rfl ?_
              refine V_goto (tgt := 9) dX2_readVillage_57 (by decide) ?_
              exact ih (q + 1) (cs ++ [c]) _ _ (by rw [List.length_append, List.length_singleton]; omega) (by omega) (by rw [List.length_append, List.length_singleton]; exact ix_add hu (by decide) (by omega)) ((hoj.tr ho1).tr goK_off) (hSt1.go hrd) (hs.go hrd hva) (hgc.mono (Nat.le_succ q)) (hR9.trans he9)
            · refine V_iconst (v := 0) dX2_readVillage_52 rfl ?_
              refine V_iret dX2_readVillage_53 rfl rfl ?_
              first
                | (rw [if_pos (Or.inl rfl)] at he9
                   rw [hR9, he9]
                   exact ⟨rfl, rfl, hoj.tr ho1, hq1, rfl⟩)
                | (have e59 : ¬ tk T E q = 59 := b01_0.mp c49
                   rw [if_pos (Or.inr e59)] at he9
                   rw [hR9, he9, if_neg e59, up2_id hSt1.2.1]
                   exact ⟨rfl, rfl, hoj.tr ho1, hq1, rfl⟩)
          · refine V_iconst (v := 1) dX2_readVillage_35 rfl ?_
            refine V_iret dX2_readVillage_36 rfl rfl ?_
            have eq : q = E := (eq_nat hqi hSt1.1).mp c32
            rw [if_pos eq] at he9
            rw [hR9, he9]
            exact ⟨rfl, rfl, hoj.tr ho1, hq1, rfl, hs⟩
  refine V_aload_n dX2_readVillage_0 rfl ?_
  refine V_getr (b := va) 2 2 dX2_readVillage_1 (Or.inl lkX2_19) rfl (sRd hrd) ⟨by omega, by omega⟩ hrd2 ?_
  refine V_callV (ci := 5) (qX5_forget n mi mr hR hn va hva) dX2_readVillage_4 mlX2_23 mtX5_forget ivX5_forget rfl (sV hva (o := 0) (by omega)) ⟨by omega, by omega⟩ (by decide) rfl rfl (by decide) (Nat.le_of_ble_eq_true rfl) rfl rfl ?_
  rintro _ _ _ _ ⟨rfl, rfl, rfl, rfl⟩
  refine V_iconst (v := 1) dX2_readVillage_7 rfl ?_
  refine V_istore_n (L' := [_, _]) dX2_readVillage_8 (by decide) rfl rfl ?_
  have ho0 : Off (offK rd va) mi (up2 (up2 (up2 (up2 mi va 0 18) va 1 60) va 2 0) va 3 0) := fun a k h => by
    unfold offK at h
    rw [up2_keep (by omega), up2_keep (by omega), up2_keep (by omega), up2_keep (by omega)]
  refine loop 9 0 [] _ _ rfl (Nat.zero_le _) (by decide) ho0 ?_ ?_ goodV_nil rfl
  · exact ⟨by rw [ho0 rd 1 (by unfold offK; omega)]; exact hSt.1, by rw [up2_row (by omega), up2_row (by omega), up2_row (by omega), up2_row (by omega)]; exact hSt.2.1, fun j hj => by rw [ho0 44 j (by unfold offK; omega)]; exact hSt.2.2 j hj⟩
  · refine ⟨⟨?_, fun j hj => absurd hj (Nat.not_lt_zero j)⟩, ?_, fun k hk => absurd hk (Nat.not_lt_zero k), ?_, ?_⟩
    · rw [up2_s]; rfl
    · rw [up2_k (by decide), up2_s]; rfl
    · rw [up2_k (by decide), up2_k (by decide), up2_k (by decide), up2_s]; rfl
    · rw [up2_k (by decide), up2_k (by decide), up2_s]; rfl
set_option maxRecDepth 4000 in
theorem qX2_init (n : Nat) (mi : MI) (mr : MR) (hR : RF mr) (hn : 186 ≤ n) (rd va : Nat) (hrd : 186 ≤ rd) (hrdn : rd < n) (hva : isV va) (x : Int32)  : Ct KX2_init 2 0 0 [.ref rd, .ref 44, .int x, .ref va] n mi mr (eqQ none n (up2 mi rd 1 x) (up2 (up2 mr rd 0 (some 44)) rd 2 (some va))) := by
  refine Ct.of2 [some (.ref rd), some (.ref 44), some (.int x), some (.ref va)] (by decide +kernel) (Nat.le_of_ble_eq_true rfl) rfl ?_
  refine V_aload_n dX2_init_0 rfl ?_
  refine V_objInit dX2_init_1 mlX2_3 im_obj cm_obj (by decide) (Nat.le_of_ble_eq_true rfl) ?_
  refine V_aload_n dX2_init_4 rfl ?_
  refine V_aload_n dX2_init_5 rfl ?_
  refine V_putrF 2 0 dX2_init_6  lkX2_9 rfl ⟨rfl, rfl⟩ (sRd hrd) ⟨by omega, by omega⟩ ?_
  refine V_aload_n dX2_init_9 rfl ?_
  refine V_iload_n dX2_init_10 rfl ?_
  refine V_putiF 2 1 dX2_init_11  lkX2_15 rfl ⟨rfl, rfl⟩ rfl rfl (sRd hrd) ⟨by omega, by omega⟩ ?_
  refine V_aload_n dX2_init_14 rfl ?_
  refine V_aload_n dX2_init_15 rfl ?_
  refine V_putrF 2 2 dX2_init_16  lkX2_19 rfl ⟨rfl, rfl⟩ (sRd hrd) ⟨by omega, by omega⟩ ?_
  refine V_ret dX2_init_19 rfl ?_
  exact ⟨rfl, rfl, rfl, rfl⟩
