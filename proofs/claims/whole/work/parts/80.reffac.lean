def offPm (a : Nat) : Nat → Nat → Prop := fun b k => (b = 173 ∧ (k = 6 ∨ k = 8 ∨ k = 9)) ∨ (b = 174 ∧ (k = 233 + a ∨ (238 + 140 * a ≤ k ∧ k < 378 + 140 * a)))
def ResM (o : Option (List Int32)) (mi : MI) (a : Nat) (W : List Int32) : Prop := match o with
  | none => mi 173 8 = 1
  | some l => mi 173 8 = 0 ∧ WR mi a (W ++ l.map tokM)
def PostM (res : PR) (n : Nat) (mi : MI) (mr : MR) (a : Nat) (W : List Int32) : QT := fun r n' mi' mr' => none = r ∧ n = n' ∧ mr = mr' ∧ Off (offPm a) mi mi' ∧ mi' 173 6 = nI res.1 ∧ mi' 173 9 = mi 173 9 ∧ ResM res.2 mi' a W
theorem MdS.off {mi mj : MI} {a : Nat} {T : Nat → Int32} {E p q : Nat} (h : MdS mi a T E p) (hE : E ≤ 100) (ho : Off (offPm a) mi mj) (hq : mj 173 6 = nI q) : MdS mj a T E q := by
  refine ⟨?_, ?_, hq, fun j hj => ?_⟩
  · rw [ho 173 5 (by unfold offPm; omega)]
    exact h.1
  · rw [ho 173 7 (by unfold offPm; omega)]
    exact h.2.1
  · rw [ho 174 (123 + j) (by unfold offPm; omega)]
    exact h.2.2.2 j hj
theorem WR.off {mi mj : MI} {a : Nat} {W : List Int32} (h : WR mi a W) (e : mj 174 = mi 174) : WR mj a W := by
  unfold WR
  rw [e]
  exact h
theorem WR.as {mi : MI} {a : Nat} {W W' : List Int32} (h : WR mi a W) (e : W = W') : WR mi a W' := e ▸ h
theorem wp_off {mi : MI} {a : Nat} {w : Int32} {q : Nat} : Off (offPm a) mi (setWP mi w q) := fun b k h => by
  unfold offPm at h
  unfold setWP
  rw [up2_keep (by omega), up2_keep (by omega)]
theorem addR_off {mi : MI} {a c : Nat} {x : Int32} (hc : c < 140) : Off (offPm a) mi (addR mi a c x) := fun b k h => by
  unfold offPm at h
  unfold addR
  rw [up2_keep (by omega), up2_keep (by omega)]
theorem addR_173 {mi : MI} {a c k : Nat} {x : Int32} : addR mi a c x 173 k = mi 173 k := by
  unfold addR
  rw [up2_row (by decide), up2_row (by decide)]
theorem tokM_2 : tokM (-2) = -2 ∧ tokM (-3) = -3 ∧ tokM (-1) = -1 := by decide
theorem tokM_N {f g v : Nat} (hf : f < 6) (hg : g < 3) (hv : v ≤ 99) : tokM (tokN f g v) = nI f + 8 * nI g + 32 * nI v := by
  have hz : (tokN f g v).toInt = (((f * 3 + g) * 100 + v : Nat) : Int) := nI_toInt (by omega)
  rw [tok_q hz (by omega)]
  have e1 : ((f * 3 + g) * 100 + v) / 300 = f := by omega
  have e2 : ((f * 3 + g) * 100 + v) / 100 % 3 = g := by
    have : ((f * 3 + g) * 100 + v) / 100 = f * 3 + g := by omega
    rw [this]
    omega
  have e3 : ((f * 3 + g) * 100 + v) % 100 = v := by omega
  rw [e1, e2, e3]
  exact (nI_of_toInt (ix_add (ix_add (nI_toInt (by omega)) (ix_mul (a := 8) rfl (nI_toInt (n := g) (by omega)) (by omega)) (by omega)) (ix_mul (a := 32) rfl (nI_toInt (n := v) (by omega)) (by omega)) (by omega))).symm
theorem no_fact : fnd (xB 4) 33 6 0 = none ∧ fnd (xB 4) 40 6 0 = none := by decide +kernel
set_option maxRecDepth 4000 in
theorem qX8_factorW (n : Nat) (mi : MI) (mr : MR) (hR : RF mr) (hn : 186 ≤ n) (h8 : mi 173 8 = 1)  : Ct KX8_factor 1 0 0 [.ref 173] n mi mr (eqQ none n mi mr) := by
  refine Ct.of2 [some (.ref 173), none, none, none, none] (by decide +kernel) (Nat.le_of_ble_eq_true rfl) rfl ?_
  refine V_aload_n dX8_factor_0 rfl ?_
  refine V_geti 8 8 dX8_factor_1 (Or.inl lkX8_63) rfl rfl ⟨by omega, by omega⟩ ?_
  refine V_if_eq (tgt := 8) dX8_factor_4 (by decide) (fun c4 => absurd (h8.symm.trans c4) (by decide)) (fun c4 => ?_)
  refine V_ret dX8_factor_7 rfl ?_
  exact ⟨rfl, rfl, rfl, rfl⟩
set_option maxRecDepth 4000 in
theorem qX8_everyW (n : Nat) (mi : MI) (mr : MR) (hR : RF mr) (hn : 186 ≤ n) (h8 : mi 173 8 = 1)  : Ct KX8_every 2 0 0 [.ref 173] n mi mr (eqQ none n mi mr) := by
  refine Ct.of2 [some (.ref 173)] (by decide +kernel) (Nat.le_of_ble_eq_true rfl) rfl ?_
  refine V_aload_n dX8_every_0 rfl ?_
  refine V_callV (ci := 8) (qX8_factorW n mi mr hR hn h8) dX8_every_1 mlX8_90 mtX8_factor ivX8_factor rfl rfl ⟨by omega, by omega⟩ (by decide) rfl rfl (by decide) (Nat.le_of_ble_eq_true rfl) rfl rfl ?_
  rintro _ _ _ _ ⟨rfl, rfl, rfl, rfl⟩
  refine V_aload_n dX8_every_4 rfl ?_
  refine V_geti 8 8 dX8_every_5 (Or.inl lkX8_63) rfl rfl ⟨by omega, by omega⟩ ?_
  refine V_if_ne (tgt := 43) dX8_every_8 (by decide) (fun c8 => ?_) (fun c8 => absurd (h8.symm.trans c8) (by decide))
  refine V_ret dX8_every_43 rfl ?_
  exact ⟨rfl, rfl, rfl, rfl⟩
set_option maxRecDepth 4000 in
theorem qX8_someW (n : Nat) (mi : MI) (mr : MR) (hR : RF mr) (hn : 186 ≤ n) (h8 : mi 173 8 = 1)  : Ct KX8_some 3 0 0 [.ref 173] n mi mr (eqQ none n mi mr) := by
  refine Ct.of2 [some (.ref 173)] (by decide +kernel) (Nat.le_of_ble_eq_true rfl) rfl ?_
  refine V_aload_n dX8_some_0 rfl ?_
  refine V_callV (ci := 8) (qX8_everyW n mi mr hR hn h8) dX8_some_1 mlX8_110 mtX8_every ivX8_every rfl rfl ⟨by omega, by omega⟩ (by decide) rfl rfl (by decide) (Nat.le_of_ble_eq_true rfl) rfl rfl ?_
  rintro _ _ _ _ ⟨rfl, rfl, rfl, rfl⟩
  refine V_aload_n dX8_some_4 rfl ?_
  refine V_geti 8 8 dX8_some_5 (Or.inl lkX8_63) rfl rfl ⟨by omega, by omega⟩ ?_
  refine V_if_ne (tgt := 43) dX8_some_8 (by decide) (fun c8 => ?_) (fun c8 => absurd (h8.symm.trans c8) (by decide))
  refine V_ret dX8_some_43 rfl ?_
  exact ⟨rfl, rfl, rfl, rfl⟩
set_option maxRecDepth 4000 in
theorem qX8_every (n : Nat) (mr : MR) (hR : RF mr) (hn : 186 ≤ n) (a : Nat) (ha5 : a < 5) (T : Nat → Int32) (E : Nat) (hE : E ≤ 100) (r : Nat) (hr : r ≤ 5) (hF : (∀ (mi : MI) (p : Nat) (W : List Int32), p ≤ E → MdS mi a T E p → mi 173 8 = 0 → mi 173 9 = nI (5 - r) → WR mi a W → W.length ≤ p → Ct KX8_factor (6 + 3 * r) 0 0 [.ref 173] n mi mr (PostM (fac T E r p) n mi mr a W))) : (∀ (mi : MI) (p : Nat) (W : List Int32), p ≤ E → MdS mi a T E p → mi 173 8 = 0 → mi 173 9 = nI (5 - r) → WR mi a W → W.length ≤ p → Ct KX8_every (7 + 3 * r) 0 0 [.ref 173] n mi mr (PostM (evy T E (fac T E r) p) n mi mr a W)) := by
  intro mi p0 W hp hSt h8 h9 hWR hWp
  refine Ct.of2 [some (.ref 173)] (by decide +kernel) (Nat.le_of_ble_eq_true rfl) rfl ?_
  have hGP : ∀ p, p ≤ E → GP E (2 * r + 1) p p ((fac T E r) p) := fun p hp => fac_ok hp
  have loop : ∀ (N q k : Nat) (l : List Int32) (mj : MI), E < q + N → q ≤ E → p0 ≤ q → E < k + q → Off (offPm a) mi mj → mj 173 6 = nI q → mj 173 9 = mi 173 9 → mj 173 8 = 0 → WR mj a (W ++ l.map tokM) → W.length + l.length ≤ q → evy T E (fac T E r) p0 = evL T E (fac T E r) k l q → V KX8_every (7 + 3 * r) 0 0 (PostM (evy T E (fac T E r) p0) n mi mr a W) 4 [some (.ref 173)] [] n mj mr := by
    intro N
    induction N with
    | zero => intro q k l mj h1 h2; exact absurd h1 (by omega)
    | succ N ih =>
      intro q k l mj hN hqE hp0 hk hoj h6j h9j h8j hWj hl hR9
      obtain ⟨k, rfl⟩ : ∃ k0, k = k0 + 1 := ⟨k - 1, by omega⟩
      have hSj := hSt.off hE hoj h6j
      have hev : evL T E (fac T E r) (k + 1) l q = if tk T E q = 38 then bindP ((fac T E r) (q + 1)) (fun u m => evL T E (fac T E r) k (l ++ m ++ [-2]) u) else (q, some l) := rfl
      refine V_aload_n dX8_every_4 rfl ?_
      refine V_geti 8 8 dX8_every_5 (Or.inl lkX8_63) rfl rfl ⟨by omega, by omega⟩ ?_
      refine V_if_ne (tgt := 43) dX8_every_8 (by decide) (fun c8 => absurd h8j c8) (fun c8 => ?_)
      refine V_aload_n dX8_every_11 rfl ?_
      refine V_callV (ci := 8) (qX8_here n mr hR hn a ha5 T E hE mj q hqE hSj) dX8_every_12 mlX8_67 mtX8_here ivX8_here rfl rfl ⟨by omega, by omega⟩ (by decide) rfl rfl (by omega) (Nat.le_of_ble_eq_true rfl) rfl rfl ?_
      rintro _ _ _ _ ⟨rfl, rfl, rfl, rfl⟩
      refine V_bipush (v := 38) dX8_every_15 rfl ?_
      refine V_icmp_ne (tgt := 43) dX8_every_17 (by decide) (fun c17 => ?_) (fun c17 => ?_)
      · refine V_ret dX8_every_43 rfl ?_
        have hch : ¬ tk T E q = 38 := c17
        rw [hR9.trans (hev.trans (if_neg hch))]
        exact ⟨rfl, rfl, rfl, hoj, h6j, h9j, h8j, hWj⟩
      · have hch : tk T E q = 38 := c17
        have hq1E := tk_is hch (by decide)
        refine V_aload_n dX8_every_20 rfl ?_
        refine V_dup dX8_every_21 rfl ?_
        refine V_geti 8 6 dX8_every_22 (Or.inl lkX8_57) rfl rfl ⟨by omega, by omega⟩ ?_
        refine V_iconst (v := 1) dX8_every_25 rfl ?_
        refine V_iadd dX8_every_26 ?_
        rw [h6j, nI_p1]
        refine V_puti 8 6 dX8_every_27 (Or.inl lkX8_57) rfl rfl rfl rfl ⟨by omega, by omega⟩ ?_
        rw [wp_6 h8j]
        have hw9 : setWP mj 0 (q + 1) 173 9 = mj 173 9 := setWP_k (by decide)
        refine V_aload_n dX8_every_30 rfl ?_
        refine V_callV (ci := 8) (hF _ (q + 1) (W ++ l.map tokM) (by omega) hSj.go setWP_8 (hw9.trans (h9j.trans h9)) (hWj.off (setWP_row (by decide))) (by simp only [List.length_append, List.length_map]; omega)) dX8_every_31 mlX8_90 mtX8_factor ivX8_factor rfl rfl ⟨by omega, by omega⟩ (by decide) rfl rfl (by omega) (Nat.le_of_ble_eq_true rfl) rfl rfl ?_
        rintro _ _ m1 _ ⟨rfl, rfl, rfl, ho1, hq1, h9n, hres⟩
        cases hr9 : (fac T E r) (q + 1) with
        | mk u o9 =>
          rw [hr9] at hq1 hres
          have hgu := hGP (q + 1) (by omega)
          rw [hr9] at hgu
          have huE : u ≤ E := hgu.1.2
          have hR10 := hR9.trans (hev.trans (if_pos hch))
          cases o9 with
          | none =>
            have hres : m1 173 8 = 1 := hres
            rw [bindP_n hr9] at hR10
            refine V_aload_n dX8_every_34 rfl ?_
            refine V_bipush (v := -2) dX8_every_35 rfl ?_
            refine V_callV (ci := 8) (qX8_emitsW n mr hR hn a ha5 T E hE m1 hres _) dX8_every_37 mlX8_93 mtX8_emits ivX8_emits rfl rfl ⟨by omega, by omega⟩ (by decide) rfl rfl (by omega) (Nat.le_of_ble_eq_true rfl) rfl rfl ?_
            rintro _ _ _ _ ⟨rfl, rfl, rfl, rfl⟩
            refine V_goto (tgt := 4) dX8_every_40 (by decide) ?_
            refine V_aload_n dX8_every_4 rfl ?_
            refine V_geti 8 8 dX8_every_5 (Or.inl lkX8_63) rfl rfl ⟨by omega, by omega⟩ ?_
            refine V_if_ne (tgt := 43) dX8_every_8 (by decide) (fun c8 => ?_) (fun c8 => absurd (hres.symm.trans c8) (by decide))
            refine V_ret dX8_every_43 rfl ?_
            rw [hR10]
            exact ⟨rfl, rfl, rfl, (hoj.tr wp_off).tr ho1, hq1, h9n.trans (hw9.trans h9j), hres⟩
          | some m =>
            obtain ⟨hres, hs⟩ := hres
            obtain ⟨g1, g2, g3, g4⟩ := hgu.2 m rfl
            have g1 : q + 1 + 1 ≤ u := g1
            have g2 : q + 1 + m.length ≤ u := g2
            rw [bindP_s hr9] at hR10
            have hlen : (W ++ l.map tokM ++ m.map tokM).length < 140 := by
              simp only [List.length_append, List.length_map]
              omega
            refine V_aload_n dX8_every_34 rfl ?_
            refine V_bipush (v := -2) dX8_every_35 rfl ?_
            refine V_callV (ci := 8) (qX8_emits n mr hR hn a ha5 T E hE m1 (hSj.go.off hE ho1 hq1).1 hres _ hlen hs.1 _) dX8_every_37 mlX8_93 mtX8_emits ivX8_emits rfl rfl ⟨by omega, by omega⟩ (by decide) rfl rfl (by omega) (Nat.le_of_ble_eq_true rfl) rfl rfl ?_
            rintro _ _ _ _ ⟨rfl, rfl, rfl, rfl⟩
            refine V_goto (tgt := 4) dX8_every_40 (by decide) ?_
            have hw := addR_wr (x := -2) hs ha5
            refine ih u k (l ++ m ++ [-2]) _ (by omega) huE (by omega) (by omega) (((hoj.tr wp_off).tr ho1).tr (addR_off hlen)) (by rw [addR_173]; exact hq1) (by rw [addR_173]; exact h9n.trans (hw9.trans h9j)) (by rw [addR_173]; exact hres) (hw.as ?_) ?_ hR10
            · rw [List.map_append, List.map_append, List.map_cons, List.map_nil, tokM_2.1]
              simp only [List.append_assoc]
            · simp only [List.length_append, List.length_singleton]
              omega
  refine V_aload_n dX8_every_0 rfl ?_
  refine V_callV (ci := 8) (hF mi p0 W hp hSt h8 h9 hWR hWp) dX8_every_1 mlX8_90 mtX8_factor ivX8_factor rfl rfl ⟨by omega, by omega⟩ (by decide) rfl rfl (by omega) (Nat.le_of_ble_eq_true rfl) rfl rfl ?_
  rintro _ _ m1 _ ⟨rfl, rfl, rfl, ho1, hq1, h9n, hres⟩
  have hgu := hGP p0 hp
  have hR9 : evy T E (fac T E r) p0 = bindP ((fac T E r) p0) (fun q l => evL T E (fac T E r) 100 l q) := rfl
  cases hr9 : (fac T E r) p0 with
  | mk u o9 =>
    rw [hr9] at hq1 hres hgu
    have huE : u ≤ E := hgu.1.2
    cases o9 with
    | none =>
      have hres : m1 173 8 = 1 := hres
      rw [bindP_n hr9] at hR9
      refine V_aload_n dX8_every_4 rfl ?_
      refine V_geti 8 8 dX8_every_5 (Or.inl lkX8_63) rfl rfl ⟨by omega, by omega⟩ ?_
      refine V_if_ne (tgt := 43) dX8_every_8 (by decide) (fun c8 => ?_) (fun c8 => absurd (hres.symm.trans c8) (by decide))
      refine V_ret dX8_every_43 rfl ?_
      rw [hR9]
      exact ⟨rfl, rfl, rfl, ho1, hq1, h9n, hres⟩
    | some l =>
      obtain ⟨hres, hs⟩ := hres
      obtain ⟨g1, g2, g3, g4⟩ := hgu.2 l rfl
      have g1 : p0 + 1 ≤ u := g1
      have g2 : p0 + l.length ≤ u := g2
      rw [bindP_s hr9] at hR9
      exact loop (E + 1) u 100 l m1 (by omega) huE (by omega) (by omega) ho1 hq1 h9n hres hs (by omega) hR9
set_option maxRecDepth 4000 in
theorem qX8_some (n : Nat) (mr : MR) (hR : RF mr) (hn : 186 ≤ n) (a : Nat) (ha5 : a < 5) (T : Nat → Int32) (E : Nat) (hE : E ≤ 100) (r : Nat) (hr : r ≤ 5) (hF : (∀ (mi : MI) (p : Nat) (W : List Int32), p ≤ E → MdS mi a T E p → mi 173 8 = 0 → mi 173 9 = nI (5 - r) → WR mi a W → W.length ≤ p → Ct KX8_every (7 + 3 * r) 0 0 [.ref 173] n mi mr (PostM (evy T E (fac T E r) p) n mi mr a W))) : (∀ (mi : MI) (p : Nat) (W : List Int32), p ≤ E → MdS mi a T E p → mi 173 8 = 0 → mi 173 9 = nI (5 - r) → WR mi a W → W.length ≤ p → Ct KX8_some (8 + 3 * r) 0 0 [.ref 173] n mi mr (PostM (som T E (fac T E r) p) n mi mr a W)) := by
  intro mi p0 W hp hSt h8 h9 hWR hWp
  refine Ct.of2 [some (.ref 173)] (by decide +kernel) (Nat.le_of_ble_eq_true rfl) rfl ?_
  have hGP : ∀ p, p ≤ E → GP E (2 * r + 1 + 1) p p (evy T E (fac T E r) p) := fun p hp => evy_ok (fun p hp => fac_ok hp) hp
  have loop : ∀ (N q k : Nat) (l : List Int32) (mj : MI), E < q + N → q ≤ E → p0 ≤ q → E < k + q → Off (offPm a) mi mj → mj 173 6 = nI q → mj 173 9 = mi 173 9 → mj 173 8 = 0 → WR mj a (W ++ l.map tokM) → W.length + l.length ≤ q → som T E (fac T E r) p0 = soL T E (fac T E r) k l q → V KX8_some (8 + 3 * r) 0 0 (PostM (som T E (fac T E r) p0) n mi mr a W) 4 [some (.ref 173)] [] n mj mr := by
    intro N
    induction N with
    | zero => intro q k l mj h1 h2; exact absurd h1 (by omega)
    | succ N ih =>
      intro q k l mj hN hqE hp0 hk hoj h6j h9j h8j hWj hl hR9
      obtain ⟨k, rfl⟩ : ∃ k0, k = k0 + 1 := ⟨k - 1, by omega⟩
      have hSj := hSt.off hE hoj h6j
      have hev : soL T E (fac T E r) (k + 1) l q = if tk T E q = 124 then bindP (evy T E (fac T E r) (q + 1)) (fun u m => soL T E (fac T E r) k (l ++ m ++ [-3]) u) else (q, some l) := rfl
      refine V_aload_n dX8_some_4 rfl ?_
      refine V_geti 8 8 dX8_some_5 (Or.inl lkX8_63) rfl rfl ⟨by omega, by omega⟩ ?_
      refine V_if_ne (tgt := 43) dX8_some_8 (by decide) (fun c8 => absurd h8j c8) (fun c8 => ?_)
      refine V_aload_n dX8_some_11 rfl ?_
      refine V_callV (ci := 8) (qX8_here n mr hR hn a ha5 T E hE mj q hqE hSj) dX8_some_12 mlX8_67 mtX8_here ivX8_here rfl rfl ⟨by omega, by omega⟩ (by decide) rfl rfl (by omega) (Nat.le_of_ble_eq_true rfl) rfl rfl ?_
      rintro _ _ _ _ ⟨rfl, rfl, rfl, rfl⟩
      refine V_bipush (v := 124) dX8_some_15 rfl ?_
      refine V_icmp_ne (tgt := 43) dX8_some_17 (by decide) (fun c17 => ?_) (fun c17 => ?_)
      · refine V_ret dX8_some_43 rfl ?_
        have hch : ¬ tk T E q = 124 := c17
        rw [hR9.trans (hev.trans (if_neg hch))]
        exact ⟨rfl, rfl, rfl, hoj, h6j, h9j, h8j, hWj⟩
      · have hch : tk T E q = 124 := c17
        have hq1E := tk_is hch (by decide)
        refine V_aload_n dX8_some_20 rfl ?_
        refine V_dup dX8_some_21 rfl ?_
        refine V_geti 8 6 dX8_some_22 (Or.inl lkX8_57) rfl rfl ⟨by omega, by omega⟩ ?_
        refine V_iconst (v := 1) dX8_some_25 rfl ?_
        refine V_iadd dX8_some_26 ?_
        rw [h6j, nI_p1]
        refine V_puti 8 6 dX8_some_27 (Or.inl lkX8_57) rfl rfl rfl rfl ⟨by omega, by omega⟩ ?_
        rw [wp_6 h8j]
        have hw9 : setWP mj 0 (q + 1) 173 9 = mj 173 9 := setWP_k (by decide)
        refine V_aload_n dX8_some_30 rfl ?_
        refine V_callV (ci := 8) (hF _ (q + 1) (W ++ l.map tokM) (by omega) hSj.go setWP_8 (hw9.trans (h9j.trans h9)) (hWj.off (setWP_row (by decide))) (by simp only [List.length_append, List.length_map]; omega)) dX8_some_31 mlX8_110 mtX8_every ivX8_every rfl rfl ⟨by omega, by omega⟩ (by decide) rfl rfl (by omega) (Nat.le_of_ble_eq_true rfl) rfl rfl ?_
        rintro _ _ m1 _ ⟨rfl, rfl, rfl, ho1, hq1, h9n, hres⟩
        cases hr9 : evy T E (fac T E r) (q + 1) with
        | mk u o9 =>
          rw [hr9] at hq1 hres
          have hgu := hGP (q + 1) (by omega)
          rw [hr9] at hgu
          have huE : u ≤ E := hgu.1.2
          have hR10 := hR9.trans (hev.trans (if_pos hch))
          cases o9 with
          | none =>
            have hres : m1 173 8 = 1 := hres
            rw [bindP_n hr9] at hR10
            refine V_aload_n dX8_some_34 rfl ?_
            refine V_bipush (v := -3) dX8_some_35 rfl ?_
            refine V_callV (ci := 8) (qX8_emitsW n mr hR hn a ha5 T E hE m1 hres _) dX8_some_37 mlX8_93 mtX8_emits ivX8_emits rfl rfl ⟨by omega, by omega⟩ (by decide) rfl rfl (by omega) (Nat.le_of_ble_eq_true rfl) rfl rfl ?_
            rintro _ _ _ _ ⟨rfl, rfl, rfl, rfl⟩
            refine V_goto (tgt := 4) dX8_some_40 (by decide) ?_
            refine V_aload_n dX8_some_4 rfl ?_
            refine V_geti 8 8 dX8_some_5 (Or.inl lkX8_63) rfl rfl ⟨by omega, by omega⟩ ?_
            refine V_if_ne (tgt := 43) dX8_some_8 (by decide) (fun c8 => ?_) (fun c8 => absurd (hres.symm.trans c8) (by decide))
            refine V_ret dX8_some_43 rfl ?_
            rw [hR10]
            exact ⟨rfl, rfl, rfl, (hoj.tr wp_off).tr ho1, hq1, h9n.trans (hw9.trans h9j), hres⟩
          | some m =>
            obtain ⟨hres, hs⟩ := hres
            obtain ⟨g1, g2, g3, g4⟩ := hgu.2 m rfl
            have g1 : q + 1 + 1 ≤ u := g1
            have g2 : q + 1 + m.length ≤ u := g2
            rw [bindP_s hr9] at hR10
            have hlen : (W ++ l.map tokM ++ m.map tokM).length < 140 := by
              simp only [List.length_append, List.length_map]
              omega
            refine V_aload_n dX8_some_34 rfl ?_
            refine V_bipush (v := -3) dX8_some_35 rfl ?_
            refine V_callV (ci := 8) (qX8_emits n mr hR hn a ha5 T E hE m1 (hSj.go.off hE ho1 hq1).1 hres _ hlen hs.1 _) dX8_some_37 mlX8_93 mtX8_emits ivX8_emits rfl rfl ⟨by omega, by omega⟩ (by decide) rfl rfl (by omega) (Nat.le_of_ble_eq_true rfl) rfl rfl ?_
            rintro _ _ _ _ ⟨rfl, rfl, rfl, rfl⟩
            refine V_goto (tgt := 4) dX8_some_40 (by decide) ?_
            have hw := addR_wr (x := -3) hs ha5
            refine ih u k (l ++ m ++ [-3]) _ (by omega) huE (by omega) (by omega) (((hoj.tr wp_off).tr ho1).tr (addR_off hlen)) (by rw [addR_173]; exact hq1) (by rw [addR_173]; exact h9n.trans (hw9.trans h9j)) (by rw [addR_173]; exact hres) (hw.as ?_) ?_ hR10
            · rw [List.map_append, List.map_append, List.map_cons, List.map_nil, tokM_2.2.1]
              simp only [List.append_assoc]
            · simp only [List.length_append, List.length_singleton]
              omega
  refine V_aload_n dX8_some_0 rfl ?_
  refine V_callV (ci := 8) (hF mi p0 W hp hSt h8 h9 hWR hWp) dX8_some_1 mlX8_110 mtX8_every ivX8_every rfl rfl ⟨by omega, by omega⟩ (by decide) rfl rfl (by omega) (Nat.le_of_ble_eq_true rfl) rfl rfl ?_
  rintro _ _ m1 _ ⟨rfl, rfl, rfl, ho1, hq1, h9n, hres⟩
  have hgu := hGP p0 hp
  have hR9 : som T E (fac T E r) p0 = bindP (evy T E (fac T E r) p0) (fun q l => soL T E (fac T E r) 100 l q) := rfl
  cases hr9 : evy T E (fac T E r) p0 with
  | mk u o9 =>
    rw [hr9] at hq1 hres hgu
    have huE : u ≤ E := hgu.1.2
    cases o9 with
    | none =>
      have hres : m1 173 8 = 1 := hres
      rw [bindP_n hr9] at hR9
      refine V_aload_n dX8_some_4 rfl ?_
      refine V_geti 8 8 dX8_some_5 (Or.inl lkX8_63) rfl rfl ⟨by omega, by omega⟩ ?_
      refine V_if_ne (tgt := 43) dX8_some_8 (by decide) (fun c8 => ?_) (fun c8 => absurd (hres.symm.trans c8) (by decide))
      refine V_ret dX8_some_43 rfl ?_
      rw [hR9]
      exact ⟨rfl, rfl, rfl, ho1, hq1, h9n, hres⟩
    | some l =>
      obtain ⟨hres, hs⟩ := hres
      obtain ⟨g1, g2, g3, g4⟩ := hgu.2 l rfl
      have g1 : p0 + 1 ≤ u := g1
      have g2 : p0 + l.length ≤ u := g2
      rw [bindP_s hr9] at hR9
      exact loop (E + 1) u 100 l m1 (by omega) huE (by omega) (by omega) ho1 hq1 h9n hres hs (by omega) hR9
theorem wp_f {mi : MI} {w : Int32} {q : Nat} (h : mi 173 6 = nI q) : up2 mi 173 8 w = setWP mi w q := by
  unfold setWP
  exact (up2_id (by rw [up2_k (by decide)]; exact h)).symm
theorem wp_8 {mi : MI} {w w' : Int32} {q : Nat} : up2 (setWP mi w q) 173 8 w' = setWP mi w' q := by
  unfold setWP
  funext i j
  simp only [up2]
  by_cases h1 : i = 173 ∧ j = 8
  · rw [if_pos h1, if_neg (by omega), if_pos h1]
  · rw [if_neg h1]
    by_cases h2 : i = 173 ∧ j = 6
    · rw [if_pos h2, if_pos h2]
    · rw [if_neg h2, if_neg h2, if_neg h1, if_neg h1]
set_option maxRecDepth 4000 in
theorem fac_test (n : Nat) (mr : MR) (hR : RF mr) (hn : 186 ≤ n) (a : Nat) (ha5 : a < 5) (T : Nat → Int32) (E : Nat) (hE : E ≤ 100) (r : Nat) (mi : MI) (p : Nat) (W : List Int32) (hp : p ≤ E) (hSt : MdS mi a T E p) (h8 : mi 173 8 = 0) (hWR : WR mi a W) (hWp : W.length ≤ p) (z1 : Int32) : V KX8_factor (6 + 3 * r) 0 0 (PostM (pTest T E p) n mi mr a W) 112 [some (.ref 173), some (.int z1), none, none, none] [] n mi mr := by
  refine V_aload_n dX8_factor_112 rfl ?_
  refine V_ldcs (k := 4) dX8_factor_113 (fun _ _ h => h.2.2.2.2.2.2.2.2.2.1) (by decide) ?_
  refine V_callV (ci := 8) (qX8_among n mr hR hn a ha5 T E hE mi p hp hSt h8 4 (by decide)) dX8_factor_115 mlX8_101 mtX8_among ivX8_among rfl rfl ⟨by omega, by omega⟩ (by decide) rfl rfl (by omega) (Nat.le_of_ble_eq_true rfl) rfl rfl ?_
  rintro _ _ _ _ ⟨rfl, rfl, rfl, rfl⟩
  cases e4 : fnd (xB 4) (tk T E p) (xL 4) 0 with
  | none =>
    have ht : pTest T E p = (p, none) := by
      unfold pTest
      rw [show fnd (xB 4) (tk T E p) 6 0 = none from e4]
    rw [if_pos rfl, setWP_id h8 hSt.2.2.1]
    refine V_istore_n (L' := [_, _, _, _, _]) dX8_factor_118 (by decide) rfl rfl ?_
    refine V_aload_n dX8_factor_119 rfl ?_
    refine V_iload_n dX8_factor_120 rfl ?_
    refine V_iconst (v := -1) dX8_factor_121 rfl ?_
    refine V_icmp_ne (tgt := 129) dX8_factor_122 (by decide) (fun c122 => absurd rfl c122) (fun c122 => ?_)
    refine V_iconst (v := 1) dX8_factor_125 rfl ?_
    refine V_goto (tgt := 130) dX8_factor_126 (by decide) ?_
    refine V_puti 8 8 dX8_factor_130 (Or.inl lkX8_63) rfl rfl rfl rfl ⟨by omega, by omega⟩ ?_
    refine V_aload_n dX8_factor_133 rfl ?_
    refine V_geti 8 8 dX8_factor_134 (Or.inl lkX8_63) rfl rfl ⟨by omega, by omega⟩ ?_
    rw [up2_s]
    refine V_if_eq (tgt := 144) dX8_factor_137 (by decide) (fun c137 => absurd c137 (by decide)) (fun c137 => ?_)
    refine V_iconst (v := 0) dX8_factor_140 rfl ?_
    refine V_goto (tgt := 150) dX8_factor_141 (by decide) ?_
    refine V_istore_n (L' := [_, _, _, _, _]) dX8_factor_150 (by decide) rfl rfl ?_
    refine V_aload_n dX8_factor_151 rfl ?_
    refine V_aload_n dX8_factor_152 rfl ?_
    refine V_geti 8 8 dX8_factor_153 (Or.inl lkX8_63) rfl rfl ⟨by omega, by omega⟩ ?_
    rw [up2_s]
    refine V_if_ne (tgt := 164) dX8_factor_156 (by decide) (fun c156 => ?_) (fun c156 => absurd c156 (by decide))
    refine V_iconst (v := 1) dX8_factor_164 rfl ?_
    refine V_goto (tgt := 169) dX8_factor_165 (by decide) ?_
    refine V_puti 8 8 dX8_factor_169 (Or.inl lkX8_63) rfl rfl rfl rfl ⟨by omega, by omega⟩ ?_
    rw [up2_up]
    have hwr := wp_f (mi := mi) (w := 1) hSt.2.2.1
    rw [hwr]
    refine V_aload_n dX8_factor_172 rfl ?_
    refine V_callV (ci := 8) (qX8_figuresW n mr hR hn a ha5 T E hE _ p hp hSt.go setWP_8) dX8_factor_173 mlX8_107 mtX8_figures ivX8_figures rfl rfl ⟨by omega, by omega⟩ (by decide) rfl rfl (by omega) (Nat.le_of_ble_eq_true rfl) rfl rfl ?_
    rintro _ _ _ _ ⟨rfl, rfl, rfl, rfl⟩
    refine V_istore (L' := [_, _, _, _, _]) dX8_factor_176 (by decide) rfl rfl ?_
    refine V_aload_n dX8_factor_178 rfl ?_
    refine V_iload_n dX8_factor_179 rfl ?_
    refine V_bipush (v := 8) dX8_factor_180 rfl ?_
    refine V_iload_n dX8_factor_182 rfl ?_
    refine V_imul dX8_factor_183 ?_
    refine V_iadd dX8_factor_184 ?_
    refine V_bipush (v := 32) dX8_factor_185 rfl ?_
    refine V_iload dX8_factor_187 rfl ?_
    refine V_imul dX8_factor_189 ?_
    refine V_iadd dX8_factor_190 ?_
    refine V_callV (ci := 8) (qX8_emitsW n mr hR hn a ha5 T E hE _ setWP_8 _) dX8_factor_191 mlX8_93 mtX8_emits ivX8_emits rfl rfl ⟨by omega, by omega⟩ (by decide) rfl rfl (by omega) (Nat.le_of_ble_eq_true rfl) rfl rfl ?_
    rintro _ _ _ _ ⟨rfl, rfl, rfl, rfl⟩
    refine V_ret dX8_factor_194 rfl ?_
    rw [ht]
    exact ⟨rfl, rfl, rfl, wp_off, setWP_6, setWP_k (by decide), setWP_8⟩
  | some f =>
    have hf := fnd_tk (Or.inl ⟨rfl, rfl⟩) (show fnd (xB 4) (tk T E p) 6 0 = some f from e4)
    rw [if_neg (fun h => by cases h)]
    have hfi : (nI f).toInt = (f : Int) := nI_toInt (by omega)
    have hfm : ¬ nI f = -1 := fun h => by
      rw [h] at hfi
      simp only [Int32.reduceToInt] at hfi
      omega
    refine V_istore_n (L' := [_, _, _, _, _]) dX8_factor_118 (by decide) rfl rfl ?_
    refine V_aload_n dX8_factor_119 rfl ?_
    refine V_iload_n dX8_factor_120 rfl ?_
    refine V_iconst (v := -1) dX8_factor_121 rfl ?_
    refine V_icmp_ne (tgt := 129) dX8_factor_122 (by decide) (fun c122 => ?_) (fun c122 => absurd c122 hfm)
    refine V_iconst (v := 0) dX8_factor_129 rfl ?_
    refine V_puti 8 8 dX8_factor_130 (Or.inl lkX8_63) rfl rfl rfl rfl ⟨by omega, by omega⟩ ?_
    rw [wp_8]
    refine V_aload_n dX8_factor_133 rfl ?_
    refine V_geti 8 8 dX8_factor_134 (Or.inl lkX8_63) rfl rfl ⟨by omega, by omega⟩ ?_
    rw [setWP_8]
    refine V_if_eq (tgt := 144) dX8_factor_137 (by decide) (fun c137 => ?_) (fun c137 => absurd rfl c137)
    refine V_aload_n dX8_factor_144 rfl ?_
    refine V_ldcs (k := 5) dX8_factor_145 (fun _ _ h => h.2.2.2.2.2.2.2.2.2.2.1) (by decide) ?_
    refine V_callV (ci := 8) (qX8_among n mr hR hn a ha5 T E hE _ (p + 1) (by omega) hSt.go setWP_8 5 (by decide)) dX8_factor_147 mlX8_101 mtX8_among ivX8_among rfl rfl ⟨by omega, by omega⟩ (by decide) rfl rfl (by omega) (Nat.le_of_ble_eq_true rfl) rfl rfl ?_
    rintro _ _ _ _ ⟨rfl, rfl, rfl, rfl⟩
    cases e5 : fnd (xB 5) (tk T E (p + 1)) (xL 5) 0 with
    | none =>
      have ht : pTest T E p = (p + 1, none) := by
        unfold pTest
        rw [show fnd (xB 4) (tk T E p) 6 0 = some f from e4]
        show (match fnd (xB 5) (tk T E (p + 1)) 3 0 with | none => _ | some g => _) = _
        rw [show fnd (xB 5) (tk T E (p + 1)) 3 0 = none from e5]
      rw [if_pos rfl, setWP_2]
      refine V_istore_n (L' := [_, _, _, _, _]) dX8_factor_150 (by decide) rfl rfl ?_
      refine V_aload_n dX8_factor_151 rfl ?_
      refine V_aload_n dX8_factor_152 rfl ?_
      refine V_geti 8 8 dX8_factor_153 (Or.inl lkX8_63) rfl rfl ⟨by omega, by omega⟩ ?_
      rw [setWP_8]
      refine V_if_ne (tgt := 164) dX8_factor_156 (by decide) (fun c156 => absurd rfl c156) (fun c156 => ?_)
      refine V_iload_n dX8_factor_159 rfl ?_
      refine V_iconst (v := -1) dX8_factor_160 rfl ?_
      refine V_icmp_ne (tgt := 168) dX8_factor_161 (by decide) (fun c161 => absurd rfl c161) (fun c161 => ?_)
      refine V_iconst (v := 1) dX8_factor_164 rfl ?_
      refine V_goto (tgt := 169) dX8_factor_165 (by decide) ?_
      refine V_puti 8 8 dX8_factor_169 (Or.inl lkX8_63) rfl rfl rfl rfl ⟨by omega, by omega⟩ ?_
      rw [wp_8]
      refine V_aload_n dX8_factor_172 rfl ?_
      refine V_callV (ci := 8) (qX8_figuresW n mr hR hn a ha5 T E hE _ (p + 1) (by omega) hSt.go setWP_8) dX8_factor_173 mlX8_107 mtX8_figures ivX8_figures rfl rfl ⟨by omega, by omega⟩ (by decide) rfl rfl (by omega) (Nat.le_of_ble_eq_true rfl) rfl rfl ?_
      rintro _ _ _ _ ⟨rfl, rfl, rfl, rfl⟩
      refine V_istore (L' := [_, _, _, _, _]) dX8_factor_176 (by decide) rfl rfl ?_
      refine V_aload_n dX8_factor_178 rfl ?_
      refine V_iload_n dX8_factor_179 rfl ?_
      refine V_bipush (v := 8) dX8_factor_180 rfl ?_
      refine V_iload_n dX8_factor_182 rfl ?_
      refine V_imul dX8_factor_183 ?_
      refine V_iadd dX8_factor_184 ?_
      refine V_bipush (v := 32) dX8_factor_185 rfl ?_
      refine V_iload dX8_factor_187 rfl ?_
      refine V_imul dX8_factor_189 ?_
      refine V_iadd dX8_factor_190 ?_
      refine V_callV (ci := 8) (qX8_emitsW n mr hR hn a ha5 T E hE _ setWP_8 _) dX8_factor_191 mlX8_93 mtX8_emits ivX8_emits rfl rfl ⟨by omega, by omega⟩ (by decide) rfl rfl (by omega) (Nat.le_of_ble_eq_true rfl) rfl rfl ?_
      rintro _ _ _ _ ⟨rfl, rfl, rfl, rfl⟩
      refine V_ret dX8_factor_194 rfl ?_
      rw [ht]
      exact ⟨rfl, rfl, rfl, wp_off, setWP_6, setWP_k (by decide), setWP_8⟩
    | some g =>
      have hg := fnd_tk (Or.inr ⟨rfl, rfl⟩) (show fnd (xB 5) (tk T E (p + 1)) 3 0 = some g from e5)
      rw [if_neg (fun h => by cases h), setWP_2]
      have hgi : (nI g).toInt = (g : Int) := nI_toInt (by omega)
      have hgm : ¬ nI g = -1 := fun h => by
        rw [h] at hgi
        simp only [Int32.reduceToInt] at hgi
        omega
      have ht : pTest T E p = bindP (pNum T E (p + 2)) (fun q v => (q, some [tokN f g v])) := by
        unfold pTest
        rw [show fnd (xB 4) (tk T E p) 6 0 = some f from e4]
        show (match fnd (xB 5) (tk T E (p + 1)) 3 0 with | none => _ | some g => _) = _
        rw [show fnd (xB 5) (tk T E (p + 1)) 3 0 = some g from e5]
      have hnum := pNum_ok (T := T) (E := E) (p := p + 2) (by omega)
      refine V_istore_n (L' := [_, _, _, _, _]) dX8_factor_150 (by decide) rfl rfl ?_
      refine V_aload_n dX8_factor_151 rfl ?_
      refine V_aload_n dX8_factor_152 rfl ?_
      refine V_geti 8 8 dX8_factor_153 (Or.inl lkX8_63) rfl rfl ⟨by omega, by omega⟩ ?_
      rw [setWP_8]
      refine V_if_ne (tgt := 164) dX8_factor_156 (by decide) (fun c156 => absurd rfl c156) (fun c156 => ?_)
      refine V_iload_n dX8_factor_159 rfl ?_
      refine V_iconst (v := -1) dX8_factor_160 rfl ?_
      refine V_icmp_ne (tgt := 168) dX8_factor_161 (by decide) (fun c161 => ?_) (fun c161 => absurd c161 hgm)
      refine V_iconst (v := 0) dX8_factor_168 rfl ?_
      refine V_puti 8 8 dX8_factor_169 (Or.inl lkX8_63) rfl rfl rfl rfl ⟨by omega, by omega⟩ ?_
      rw [wp_8]
      refine V_aload_n dX8_factor_172 rfl ?_
      refine V_callV (ci := 8) (qX8_figures n mr hR hn a ha5 T E hE _ (p + 2) (by omega) hSt.go setWP_8) dX8_factor_173 mlX8_107 mtX8_figures ivX8_figures rfl rfl ⟨by omega, by omega⟩ (by decide) rfl rfl (by omega) (Nat.le_of_ble_eq_true rfl) rfl rfl ?_
      rintro _ _ _ _ ⟨rfl, rfl, rfl, rfl⟩
      rw [setWP_2]
      cases e6 : pNum T E (p + 2) with
      | mk q o =>
        rw [e6] at hnum ht
        cases o with
        | none =>
          rw [b01_t rfl]
          refine V_istore (L' := [_, _, _, _, _]) dX8_factor_176 (by decide) rfl rfl ?_
          refine V_aload_n dX8_factor_178 rfl ?_
          refine V_iload_n dX8_factor_179 rfl ?_
          refine V_bipush (v := 8) dX8_factor_180 rfl ?_
          refine V_iload_n dX8_factor_182 rfl ?_
          refine V_imul dX8_factor_183 ?_
          refine V_iadd dX8_factor_184 ?_
          refine V_bipush (v := 32) dX8_factor_185 rfl ?_
          refine V_iload dX8_factor_187 rfl ?_
          refine V_imul dX8_factor_189 ?_
          refine V_iadd dX8_factor_190 ?_
          refine V_callV (ci := 8) (qX8_emitsW n mr hR hn a ha5 T E hE _ setWP_8 _) dX8_factor_191 mlX8_93 mtX8_emits ivX8_emits rfl rfl ⟨by omega, by omega⟩ (by decide) rfl rfl (by omega) (Nat.le_of_ble_eq_true rfl) rfl rfl ?_
          rintro _ _ _ _ ⟨rfl, rfl, rfl, rfl⟩
          refine V_ret dX8_factor_194 rfl ?_
          rw [ht]
          exact ⟨rfl, rfl, rfl, wp_off, setWP_6, setWP_k (by decide), setWP_8⟩
        | some v =>
          have hv := hnum.2 v rfl
          rw [b01_f (c := (q, some v).2 = none) (fun h => by cases h)]
          have hwr0 : WR (setWP mi 0 q) a W := hWR.off (setWP_row (by decide))
          have hSq : MdS (setWP mi 0 q) a T E q := hSt.go
          refine V_istore (L' := [_, _, _, _, _]) dX8_factor_176 (by decide) rfl rfl ?_
          refine V_aload_n dX8_factor_178 rfl ?_
          refine V_iload_n dX8_factor_179 rfl ?_
          refine V_bipush (v := 8) dX8_factor_180 rfl ?_
          refine V_iload_n dX8_factor_182 rfl ?_
          refine V_imul dX8_factor_183 ?_
          refine V_iadd dX8_factor_184 ?_
          refine V_bipush (v := 32) dX8_factor_185 rfl ?_
          refine V_iload dX8_factor_187 rfl ?_
          refine V_imul dX8_factor_189 ?_
          refine V_iadd dX8_factor_190 ?_
          refine V_callV (ci := 8) (qX8_emits n mr hR hn a ha5 T E hE (setWP mi 0 q) hSq.1 setWP_8 W.length (by omega) hwr0.1 _) dX8_factor_191 mlX8_93 mtX8_emits ivX8_emits rfl rfl ⟨by omega, by omega⟩ (by decide) rfl rfl (by omega) (Nat.le_of_ble_eq_true rfl) rfl rfl ?_
          rintro _ _ _ _ ⟨rfl, rfl, rfl, rfl⟩
          refine V_ret dX8_factor_194 rfl ?_
          rw [ht]
          refine ⟨rfl, rfl, rfl, wp_off.tr (addR_off (by omega)), by rw [addR_173]; exact setWP_6, by rw [addR_173]; exact setWP_k (by decide), by rw [addR_173]; exact setWP_8, ?_⟩
          have hw := addR_wr (x := nI f + 8 * nI g + 32 * figV (some v)) hwr0 ha5
          rw [show [tokN f g v].map tokM = [nI f + 8 * nI g + 32 * nI v] by rw [List.map_cons, List.map_nil, tokM_N hf.2 hg.2 hv.2]]
          exact hw
