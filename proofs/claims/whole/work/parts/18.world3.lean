theorem RTw5 {w : Nat} (h : isW w) : RT w 5 = none := by rcases h with rfl | rfl | rfl <;> rfl
/-- nothing outside the world at w is changed -/
def Keep (w : Nat) (mi m : MI) : Prop := ∀ a, ¬ (w ≤ a ∧ a ≤ w + 29) → ∀ k, m a k = mi a k
theorem Keep.up {w : Nat} {mi m : MI} {a k : Nat} {x : Int32} (h : Keep w mi m) (ha : w ≤ a ∧ a ≤ w + 29) : Keep w mi (up2 m a k x) := fun b hb j => by
  simp only [up2]
  rw [if_neg (by rintro ⟨rfl, -⟩; exact hb ha)]
  exact h b hb j
theorem Keep.cp {w : Nat} {mi m : MI} {s a len : Nat} (h : Keep w mi m) (ha : w ≤ a ∧ a ≤ w + 29) : Keep w mi (cp2 m s a len) := fun b hb j => by
  simp only [cp2]
  rw [if_neg (by rintro ⟨rfl, -⟩; exact hb ha)]
  exact h b hb j
theorem Keep.off {w : Nat} {mi m m' : MI} {S : Nat → Nat → Prop} (h : Keep w mi m) (ho : Off S m m') (hs : ∀ a k, S a k → w ≤ a ∧ a ≤ w + 29) : Keep w mi m' := fun b hb j => (ho b j (fun q => hb (hs b j q))).trans (h b hb j)
def charOK (mi : MI) (w : Nat) : Prop := ∀ j, j < 100 → fits .char (.int (mi (w + 4) j)) = true
/-- the world at w is now as that at u was -/
def copyW (mi m : MI) (w u N sv sn sb : Nat) : Prop :=
  (∀ k, k < 5 → m w k = mi u k) ∧ (∀ p, p < N → perIs m (w + 18 + 2 * p) (mi (u + 18 + 2 * p) 1) (mi (u + 18 + 2 * p) 2) (mi (u + 18 + 2 * p) 3) (mi (u + 18 + 2 * p) 4) (mi (u + 18 + 2 * p) 5) (mi (u + 18 + 2 * p + 1))) ∧
  (∀ k, k < 5 → m (w + 2) k = mi (u + 2) k ∧ m (w + 3) k = mi (u + 3) k) ∧ (∀ k, k < 100 → m (w + 4) k = mi (u + 4) k) ∧
  (m (w + 5) 3 = mi (u + 5) 3 ∧ ∀ j, j < sv → m (w + 5 + 1) j = mi (u + 5 + 1) j ∧ m (w + 5 + 2) j = mi (u + 5 + 2) j ∧ m (w + 5 + 3) j = mi (u + 5 + 3) j) ∧
  (m (w + 9) 3 = mi (u + 9) 3 ∧ ∀ j, j < sn → m (w + 9 + 1) j = mi (u + 9 + 1) j ∧ m (w + 9 + 2) j = mi (u + 9 + 2) j ∧ m (w + 9 + 3) j = mi (u + 9 + 3) j) ∧
  (m (w + 13) 3 = mi (u + 13) 3 ∧ ∀ j, j < sb → m (w + 13 + 1) j = mi (u + 13 + 1) j ∧ m (w + 13 + 2) j = mi (u + 13 + 2) j ∧ m (w + 13 + 3) j = mi (u + 13 + 3) j)
/-- the number of each is its place -/
def keepNum (mi m : MI) (w : Nat) : Prop := ∀ p, p < 6 → m (w + 18 + 2 * p) 0 = mi (w + 18 + 2 * p) 0
set_option maxRecDepth 4000 in
theorem qX6_liveThroughNight (n : Nat) (mi : MI) (mr : MR) (hR : RF mr) (hn : 186 ≤ n) (w : Nat) (hw : isW w) (N : Nat) (hN : (mi w 1).toInt = (N : Int)) (hN6 : N ≤ 6) (Nv S : Nat) (hNv5 : Nv ≤ 5) (hS : (mi (w + 9) 3).toInt = (S : Int)) (hS8 : S ≤ 8) (hNi : nightOK mi w N Nv S)  : Ct KX6_liveThroughNight 2 0 0 [.ref w] n mi mr (eqQ none n (liveTo mi w N S) mr) := by
  refine Ct.of2 [some (.ref w), none] (by decide +kernel) (Nat.le_of_ble_eq_true rfl) rfl ?_
  have hwl := hw.le
  refine V_iconst (v := 0) dX6_liveThroughNight_0 rfl ?_
  refine V_istore_n (L' := [_, _]) dX6_liveThroughNight_1 (by decide) rfl rfl ?_
  have loop : ∀ (m i : Nat) (x : Int32), i + m = S → x.toInt = (i : Int) → V KX6_liveThroughNight 2 0 0 (eqQ none n (liveTo mi w N S) mr) 2 [some (.ref w), some (.int x)] [] n (liveTo mi w N i) mr := by
    intro m
    induction m with
    | zero =>
      intro i x him hx
      have hof := liveTo_off (mi := mi) (w := w) (N := N) i
      have hw1 : (liveTo mi w N i) w 1 = mi w 1 := hof w 1 (by unfold offN; rintro (h | h | ⟨p, h⟩) <;> omega)
      have hw9 : (liveTo mi w N i) (w + 9) 3 = mi (w + 9) 3 := hof (w + 9) 3 (by unfold offN; rintro (h | h | ⟨p, h⟩) <;> omega)
      have hw10 : (liveTo mi w N i) (w + 9 + 1) i = mi (w + 10) i := hof (w + 10) i (by unfold offN; rintro (h | h | ⟨p, h⟩) <;> omega)
      have hw11 : (liveTo mi w N i) (w + 9 + 2) i = mi (w + 11) i := hof (w + 11) i (by unfold offN; rintro (h | h | ⟨p, h⟩) <;> omega)
      have hw12 : (liveTo mi w N i) (w + 9 + 3) i = mi (w + 12) i := hof (w + 12) i (by unfold offN; rintro (h | h | ⟨p, h⟩) <;> omega)
      refine V_iload_n dX6_liveThroughNight_2 rfl ?_
      refine V_aload_n dX6_liveThroughNight_3 rfl ?_
      refine V_getr (b := (w + 9)) 6 11 dX6_liveThroughNight_4 (Or.inl lkX6_41) rfl (sW hw (o := 0) (by omega)) ⟨by omega, by omega⟩ (hR _ _ _ (rW hw (o := 0) (k := 11) (by omega) (by omega) rfl)) ?_
      refine V_geti 3 3 dX6_liveThroughNight_7 lnX6_121 rfl (sW hw (o := 9) (by omega)) ⟨by omega, by omega⟩ ?_
      refine V_icmp_ge (tgt := 96) dX6_liveThroughNight_10 (by decide) (fun c10 => ?_) (fun c10 => absurd ((le_nat (by rw [hw9]; exact hS) hx).mpr (by omega)) c10)
      refine V_ret dX6_liveThroughNight_96 rfl ?_
      have hi : i = S := by omega
      subst hi
      exact ⟨rfl, rfl, rfl, rfl⟩
    | succ m ih =>
      intro i x him hx
      have hof := liveTo_off (mi := mi) (w := w) (N := N) i
      have hw1 : (liveTo mi w N i) w 1 = mi w 1 := hof w 1 (by unfold offN; rintro (h | h | ⟨p, h⟩) <;> omega)
      have hw9 : (liveTo mi w N i) (w + 9) 3 = mi (w + 9) 3 := hof (w + 9) 3 (by unfold offN; rintro (h | h | ⟨p, h⟩) <;> omega)
      have hw10 : (liveTo mi w N i) (w + 9 + 1) i = mi (w + 10) i := hof (w + 10) i (by unfold offN; rintro (h | h | ⟨p, h⟩) <;> omega)
      have hw11 : (liveTo mi w N i) (w + 9 + 2) i = mi (w + 11) i := hof (w + 11) i (by unfold offN; rintro (h | h | ⟨p, h⟩) <;> omega)
      have hw12 : (liveTo mi w N i) (w + 9 + 3) i = mi (w + 12) i := hof (w + 12) i (by unfold offN; rintro (h | h | ⟨p, h⟩) <;> omega)
      refine V_iload_n dX6_liveThroughNight_2 rfl ?_
      refine V_aload_n dX6_liveThroughNight_3 rfl ?_
      refine V_getr (b := (w + 9)) 6 11 dX6_liveThroughNight_4 (Or.inl lkX6_41) rfl (sW hw (o := 0) (by omega)) ⟨by omega, by omega⟩ (hR _ _ _ (rW hw (o := 0) (k := 11) (by omega) (by omega) rfl)) ?_
      refine V_geti 3 3 dX6_liveThroughNight_7 lnX6_121 rfl (sW hw (o := 9) (by omega)) ⟨by omega, by omega⟩ ?_
      refine V_icmp_ge (tgt := 96) dX6_liveThroughNight_10 (by decide) (fun c10 => absurd ((le_nat (by rw [hw9]; exact hS) hx).mp c10) (by omega)) (fun c10 => ?_)
      refine V_aload_n dX6_liveThroughNight_13 rfl ?_
      refine V_getr (b := (w + 9)) 6 11 dX6_liveThroughNight_14 (Or.inl lkX6_41) rfl (sW hw (o := 0) (by omega)) ⟨by omega, by omega⟩ (hR _ _ _ (rW hw (o := 0) (k := 11) (by omega) (by omega) rfl)) ?_
      refine V_getr (b := ((w + 9) + 1)) 3 0 dX6_liveThroughNight_17 lnX6_124 rfl (sW hw (o := 9) (by omega)) ⟨by omega, by omega⟩ (hR _ _ _ (rR (Or.inr (Or.inl ⟨w, hw, rfl, rfl⟩)) (k := 0) (by omega))) ?_
      refine V_iload_n dX6_liveThroughNight_20 rfl ?_
      refine V_iald (len := 8) i dX6_liveThroughNight_21 (sRa (Or.inr (Or.inl ⟨w, hw, rfl, rfl⟩)) (k := 0) (by omega)) ⟨by omega, by omega⟩ hx (by omega) ?_
      refine V_if_ne (tgt := 33) dX6_liveThroughNight_22 (by decide) (fun c22 => ?_) (fun c22 => ?_)
      · obtain ⟨⟨p, hp1, hp2⟩, hv⟩ := (hNi i (by omega)).resolve_left (by rw [← hw10]; exact c22)
        refine V_aload_n dX6_liveThroughNight_33 rfl ?_
        refine V_getr (b := (w + 9)) 6 11 dX6_liveThroughNight_34 (Or.inl lkX6_41) rfl (sW hw (o := 0) (by omega)) ⟨by omega, by omega⟩ (hR _ _ _ (rW hw (o := 0) (k := 11) (by omega) (by omega) rfl)) ?_
        refine V_getr (b := ((w + 9) + 1)) 3 0 dX6_liveThroughNight_37 lnX6_124 rfl (sW hw (o := 9) (by omega)) ⟨by omega, by omega⟩ (hR _ _ _ (rR (Or.inr (Or.inl ⟨w, hw, rfl, rfl⟩)) (k := 0) (by omega))) ?_
        refine V_iload_n dX6_liveThroughNight_40 rfl ?_
        refine V_iald (len := 8) i dX6_liveThroughNight_41 (sRa (Or.inr (Or.inl ⟨w, hw, rfl, rfl⟩)) (k := 0) (by omega)) ⟨by omega, by omega⟩ hx (by omega) ?_
        refine V_iconst (v := 1) dX6_liveThroughNight_42 rfl ?_
        refine V_icmp_ne (tgt := 72) dX6_liveThroughNight_43 (by decide) (fun c43 => ?_) (fun c43 => ?_)
        · refine V_aload_n dX6_liveThroughNight_72 rfl ?_
          refine V_getr (b := (w + 1)) 6 6 dX6_liveThroughNight_73 (Or.inl lkX6_17) rfl (sW hw (o := 0) (by omega)) ⟨by omega, by omega⟩ (hR _ _ _ (rW hw (o := 0) (k := 6) (by omega) (by omega) rfl)) ?_
          refine V_aload_n dX6_liveThroughNight_76 rfl ?_
          refine V_getr (b := (w + 9)) 6 11 dX6_liveThroughNight_77 (Or.inl lkX6_41) rfl (sW hw (o := 0) (by omega)) ⟨by omega, by omega⟩ (hR _ _ _ (rW hw (o := 0) (k := 11) (by omega) (by omega) rfl)) ?_
          refine V_getr (b := ((w + 9) + 2)) 3 1 dX6_liveThroughNight_80 lnX6_130 rfl (sW hw (o := 9) (by omega)) ⟨by omega, by omega⟩ (hR _ _ _ (rR (Or.inr (Or.inl ⟨w, hw, rfl, rfl⟩)) (k := 1) (by omega))) ?_
          refine V_iload_n dX6_liveThroughNight_83 rfl ?_
          refine V_iald (len := 8) i dX6_liveThroughNight_84 (sRa (Or.inr (Or.inl ⟨w, hw, rfl, rfl⟩)) (k := 1) (by omega)) ⟨by omega, by omega⟩ hx (by omega) ?_
          refine V_aald (len := 6) (b := (w + 18 + 2 * p)) 5 p dX6_liveThroughNight_85 (sW hw (o := 1) (by omega)) rfl ⟨by omega, by omega⟩ (by rw [hw11]; exact hp1) (by omega) (hR _ _ _ (rFolk hw (by omega))) ?_
          refine V_iconst (v := -1) dX6_liveThroughNight_86 rfl ?_
          refine V_puti 1 5 dX6_liveThroughNight_87 lnX6_112 rfl rfl rfl (sP (pOf hw (by omega))) ⟨by omega, by omega⟩ ?_
          refine V_iinc (v := _ + (1)) (L' := [_, _]) dX6_liveThroughNight_90 (by decide) rfl rfl rfl rfl ?_
          refine V_goto (tgt := 2) dX6_liveThroughNight_93 (by decide) ?_
          refine V.eq (ih (i + 1) _ (by omega) (ix_add hx (by decide) (by omega))) rfl rfl rfl rfl ?_ rfl
          show nStep (liveTo mi w N i) mi w N i = _
          unfold nStep
          rw [hw10] at c22
          first
            | rw [if_pos c22]
            | (rw [hw10] at c43
               first
                | (rw [if_neg c22, if_pos c43, nat_of_toInt hp1, nat_of_toInt hv1]; try rw [hw12])
                | (rw [if_neg c22, if_neg c43, nat_of_toInt hp1]))
        · obtain ⟨v, hv1, hv2⟩ := hv (by rw [← hw10]; exact c43)
          refine V_aload_n dX6_liveThroughNight_46 rfl ?_
          refine V_aload_n dX6_liveThroughNight_47 rfl ?_
          refine V_getr (b := (w + 9)) 6 11 dX6_liveThroughNight_48 (Or.inl lkX6_41) rfl (sW hw (o := 0) (by omega)) ⟨by omega, by omega⟩ (hR _ _ _ (rW hw (o := 0) (k := 11) (by omega) (by omega) rfl)) ?_
          refine V_getr (b := ((w + 9) + 2)) 3 1 dX6_liveThroughNight_51 lnX6_130 rfl (sW hw (o := 9) (by omega)) ⟨by omega, by omega⟩ (hR _ _ _ (rR (Or.inr (Or.inl ⟨w, hw, rfl, rfl⟩)) (k := 1) (by omega))) ?_
          refine V_iload_n dX6_liveThroughNight_54 rfl ?_
          refine V_iald (len := 8) i dX6_liveThroughNight_55 (sRa (Or.inr (Or.inl ⟨w, hw, rfl, rfl⟩)) (k := 1) (by omega)) ⟨by omega, by omega⟩ hx (by omega) ?_
          refine V_aload_n dX6_liveThroughNight_56 rfl ?_
          refine V_getr (b := (w + 9)) 6 11 dX6_liveThroughNight_57 (Or.inl lkX6_41) rfl (sW hw (o := 0) (by omega)) ⟨by omega, by omega⟩ (hR _ _ _ (rW hw (o := 0) (k := 11) (by omega) (by omega) rfl)) ?_
          refine V_getr (b := ((w + 9) + 3)) 3 2 dX6_liveThroughNight_60 lnX6_133 rfl (sW hw (o := 9) (by omega)) ⟨by omega, by omega⟩ (hR _ _ _ (rR (Or.inr (Or.inl ⟨w, hw, rfl, rfl⟩)) (k := 2) (by omega))) ?_
          refine V_iload_n dX6_liveThroughNight_63 rfl ?_
          refine V_iald (len := 8) i dX6_liveThroughNight_64 (sRa (Or.inr (Or.inl ⟨w, hw, rfl, rfl⟩)) (k := 2) (by omega)) ⟨by omega, by omega⟩ hx (by omega) ?_
          refine V_callV (ci := 6) (qX6_pourOut _ _ _ hR hn _ hw _ _ p v (by rw [hw11]; exact hp1) (by omega) (by rw [hw12]; exact hv1) (by omega)) dX6_liveThroughNight_65 mlX6_136 mtX6_pourOut ivX6_pourOut rfl (sW hw (o := 0) (by omega)) ⟨by omega, by omega⟩ (by decide) rfl rfl (by decide) (Nat.le_of_ble_eq_true rfl) rfl rfl ?_
          rintro _ _ _ _ ⟨rfl, rfl, rfl, rfl⟩
          refine V_pop dX6_liveThroughNight_68 rfl ?_
          refine V_goto (tgt := 90) dX6_liveThroughNight_69 (by decide) ?_
          refine V_iinc (v := _ + (1)) (L' := [_, _]) dX6_liveThroughNight_90 (by decide) rfl rfl rfl rfl ?_
          refine V_goto (tgt := 2) dX6_liveThroughNight_93 (by decide) ?_
          refine V.eq (ih (i + 1) _ (by omega) (ix_add hx (by decide) (by omega))) rfl rfl rfl rfl ?_ rfl
          show nStep (liveTo mi w N i) mi w N i = _
          unfold nStep
          rw [hw10] at c22
          first
            | rw [if_pos c22]
            | (rw [hw10] at c43
               first
                | (rw [if_neg c22, if_pos c43, nat_of_toInt hp1, nat_of_toInt hv1]; try rw [hw12])
                | (rw [if_neg c22, if_neg c43, nat_of_toInt hp1]))
      · refine V_aload_n dX6_liveThroughNight_25 rfl ?_
        refine V_iconst (v := 1) dX6_liveThroughNight_26 rfl ?_
        refine V_callV (ci := 6) (qX6_growLight _ _ _ hR hn _ hw N (by rw [hw1]; exact hN) hN6 _) dX6_liveThroughNight_27 mlX6_127 mtX6_growLight ivX6_growLight rfl (sW hw (o := 0) (by omega)) ⟨by omega, by omega⟩ (by decide) rfl rfl (by decide) (Nat.le_of_ble_eq_true rfl) rfl rfl ?_
        rintro _ _ _ _ ⟨rfl, rfl, rfl, rfl⟩
        refine V_goto (tgt := 90) dX6_liveThroughNight_30 (by decide) ?_
        refine V_iinc (v := _ + (1)) (L' := [_, _]) dX6_liveThroughNight_90 (by decide) rfl rfl rfl rfl ?_
        refine V_goto (tgt := 2) dX6_liveThroughNight_93 (by decide) ?_
        refine V.eq (ih (i + 1) _ (by omega) (ix_add hx (by decide) (by omega))) rfl rfl rfl rfl ?_ rfl
        show nStep (liveTo mi w N i) mi w N i = _
        unfold nStep
        rw [hw10] at c22
        first
          | rw [if_pos c22]
          | (rw [hw10] at c43
             first
              | (rw [if_neg c22, if_pos c43, nat_of_toInt hp1, nat_of_toInt hv1]; try rw [hw12])
              | (rw [if_neg c22, if_neg c43, nat_of_toInt hp1]))
  exact loop S 0 _ (by omega) (by decide)
set_option maxRecDepth 4000 in
theorem qX6_become (n : Nat) (mi : MI) (mr : MR) (hR : RF mr) (hn : 186 ≤ n) (w : Nat) (hw : isW w) (u : Nat) (huw : isW u) (hne : w ≠ u) (hu : Nat) (hhu : mr u 5 = some hu) (N sv sn sb : Nat) (hN : (mi u 1).toInt = (N : Int)) (hN6 : N ≤ 6) (h5 : (mi (u + 5) 3).toInt = (sv : Int)) (h5l : sv ≤ 5) (h9 : (mi (u + 9) 3).toInt = (sn : Int)) (h9l : sn ≤ 8) (h13 : (mi (u + 13) 3).toInt = (sb : Int)) (h13l : sb ≤ 8) (hch : charOK mi u) : Ct KX6_become 4 0 0 [.ref w, .ref u] n mi mr (fun r n' mi' mr' => none = r ∧ n = n' ∧ up2 mr w 5 (some hu) = mr' ∧ Keep w mi mi' ∧ copyW mi mi' w u N sv sn sb ∧ keepNum mi mi' w ∧ mi' (w + 17) = mi (w + 17)) := by
  refine Ct.of2 [some (.ref w), some (.ref u), none] (by decide +kernel) (Nat.le_of_ble_eq_true rfl) rfl ?_
  have hwl := hw.le
  have hul := huw.le
  have hwu : w + 30 ≤ u ∨ u + 30 ≤ w := by have := hne; rcases hw with rfl | rfl | rfl <;> rcases huw with rfl | rfl | rfl <;> omega
  refine V_aload_n dX6_become_0 rfl ?_
  refine V_aload_n dX6_become_1 rfl ?_
  refine V_geti 6 0 dX6_become_2 (Or.inl lkX6_9) rfl (sW huw (o := 0) (by omega)) ⟨by omega, by omega⟩ ?_
  refine V_puti 6 0 dX6_become_5 (Or.inl lkX6_9) rfl rfl rfl (sW hw (o := 0) (by omega)) ⟨by omega, by omega⟩ ?_
  refine V_aload_n dX6_become_8 rfl ?_
  refine V_aload_n dX6_become_9 rfl ?_
  refine V_geti 6 1 dX6_become_10 (Or.inl lkX6_57) rfl (sW huw (o := 0) (by omega)) ⟨by omega, by omega⟩ ?_
  refine V_puti 6 1 dX6_become_13 (Or.inl lkX6_57) rfl rfl rfl (sW hw (o := 0) (by omega)) ⟨by omega, by omega⟩ ?_
  refine V_aload_n dX6_become_16 rfl ?_
  refine V_aload_n dX6_become_17 rfl ?_
  refine V_geti 6 2 dX6_become_18 (Or.inl lkX6_60) rfl (sW huw (o := 0) (by omega)) ⟨by omega, by omega⟩ ?_
  refine V_puti 6 2 dX6_become_21 (Or.inl lkX6_60) rfl rfl rfl (sW hw (o := 0) (by omega)) ⟨by omega, by omega⟩ ?_
  refine V_aload_n dX6_become_24 rfl ?_
  refine V_aload_n dX6_become_25 rfl ?_
  refine V_geti 6 3 dX6_become_26 (Or.inl lkX6_63) rfl (sW huw (o := 0) (by omega)) ⟨by omega, by omega⟩ ?_
  refine V_puti 6 3 dX6_become_29 (Or.inl lkX6_63) rfl rfl rfl (sW hw (o := 0) (by omega)) ⟨by omega, by omega⟩ ?_
  refine V_aload_n dX6_become_32 rfl ?_
  refine V_aload_n dX6_become_33 rfl ?_
  refine V_geti 6 4 dX6_become_34 (Or.inl lkX6_66) rfl (sW huw (o := 0) (by omega)) ⟨by omega, by omega⟩ ?_
  refine V_puti 6 4 dX6_become_37 (Or.inl lkX6_66) rfl rfl rfl (sW hw (o := 0) (by omega)) ⟨by omega, by omega⟩ ?_
  refine V_aload_n dX6_become_40 rfl ?_
  refine V_aload_n dX6_become_41 rfl ?_
  refine V_getr (b := hu) 6 5 dX6_become_42 (Or.inl lkX6_52) rfl (sW huw (o := 0) (by omega)) ⟨by omega, by omega⟩ hhu ?_
  refine V_putr 6 5 dX6_become_45 (Or.inl lkX6_52) rfl (sW hw (o := 0) (by omega)) ⟨by omega, by omega⟩ ?_
  refine V_iconst (v := 0) dX6_become_48 rfl ?_
  refine V_istore_n (L' := [_, _, _]) dX6_become_49 (by decide) rfl rfl ?_
  obtain ⟨m0, hm0⟩ : ∃ m0, m0 = up2 (up2 (up2 (up2 (up2 mi w 0 (mi u 0)) w 1 (mi u 1)) w 2 (mi u 2)) w 3 (mi u 3)) w 4 (mi u 4) := ⟨_, rfl⟩
  have hn1 : ¬ u = w := by omega
  refine V.eq (mi' := m0) (L' := [some (.ref w), some (.ref u), some (.int 0)]) ?_ rfl rfl rfl rfl (by rw [hm0]; simp [up2, hn1]) rfl
  have k0 : Keep w mi m0 := by
    rw [hm0]
    exact Keep.up (Keep.up (Keep.up (Keep.up (Keep.up (fun _ _ _ => rfl) (by omega)) (by omega)) (by omega)) (by omega)) (by omega)
  have hf0 : ∀ k, k < 5 → m0 w k = mi u k := by
    intro k hk
    have hk2 : k = 0 ∨ k = 1 ∨ k = 2 ∨ k = 3 ∨ k = 4 := by omega
    rw [hm0]
    rcases hk2 with rfl | rfl | rfl | rfl | rfl <;> simp [up2]
  have ho0 : Off (fun a _ => a = w) mi m0 := by
    rw [hm0]
    exact (((((Off.rf (S := fun a _ => a = w)).up rfl).up rfl).up rfl).up rfl).up rfl
  have hR2 : RF (up2 mr w 5 (some hu)) := hR.up2 (RTw5 hw)
  clear hm0
  have loop : ∀ (m i : Nat) (x : Int32) (mj : MI), i + m = N → x.toInt = (i : Int) → Off (fun a k => ∃ p, p < i ∧ offP (w + 18 + 2 * p) a k) m0 mj → (∀ p, p < i → perIs mj (w + 18 + 2 * p) (mi (u + 18 + 2 * p) 1) (mi (u + 18 + 2 * p) 2) (mi (u + 18 + 2 * p) 3) (mi (u + 18 + 2 * p) 4) (mi (u + 18 + 2 * p) 5) (mi (u + 18 + 2 * p + 1))) → V KX6_become 4 0 0 (fun r n' mi' mr' => none = r ∧ n = n' ∧ up2 mr w 5 (some hu) = mr' ∧ Keep w mi mi' ∧ copyW mi mi' w u N sv sn sb ∧ keepNum mi mi' w ∧ mi' (w + 17) = mi (w + 17)) 50 [some (.ref w), some (.ref u), some (.int x)] [] n mj (up2 mr w 5 (some hu)) := by
    intro m
    induction m with
    | zero =>
      intro i x mj him hx ho hper
      have kj : Keep w mi mj := k0.off ho (fun a k => by rintro ⟨p, hp, h⟩; unfold offP at h; omega)
      have hw1 : (mj w 1).toInt = (N : Int) := by
        rw [ho w 1 (by rintro ⟨p, hp, h⟩; unfold offP at h; omega), hf0 1 (by omega)]
        exact hN
      refine V_iload_n dX6_become_50 rfl ?_
      refine V_aload_n dX6_become_51 rfl ?_
      refine V_geti 6 1 dX6_become_52 (Or.inl lkX6_57) rfl (sW hw (o := 0) (by omega)) ⟨by omega, by omega⟩ ?_
      refine V_icmp_ge (tgt := 79) dX6_become_55 (by decide) (fun c55 => ?_) (fun c55 => absurd ((le_nat hw1 hx).mpr (by omega)) c55)
      have hi : i = N := by omega
      subst hi
      clear c55
      refine V_aload_n dX6_become_79 rfl ?_
      refine V_getr (b := (u + 2)) 6 7 dX6_become_80 (Or.inl lkX6_21) rfl (sW huw (o := 0) (by omega)) ⟨by omega, by omega⟩ (hR2 _ _ _ (rW huw (o := 0) (k := 7) (by omega) (by omega) rfl)) ?_
      refine V_iconst (v := 0) dX6_become_83 rfl ?_
      refine V_aload_n dX6_become_84 rfl ?_
      refine V_getr (b := (w + 2)) 6 7 dX6_become_85 (Or.inl lkX6_21) rfl (sW hw (o := 0) (by omega)) ⟨by omega, by omega⟩ (hR2 _ _ _ (rW hw (o := 0) (k := 7) (by omega) (by omega) rfl)) ?_
      refine V_iconst (v := 0) dX6_become_88 rfl ?_
      refine V_iconst (v := 5) dX6_become_89 rfl ?_
      refine V_copy (t := 0) (len := 5) dX6_become_90 mlX6_73 nat_copy sm_copy iniJ10 (sW huw (o := 2) (by omega)) (sW hw (o := 2) (by omega)) (by decide) ⟨by omega, by omega⟩ ⟨by omega, by omega⟩ rfl (by decide) (fun _ _ => rfl) (by decide) (Nat.le_of_ble_eq_true rfl) ?_
      refine V_aload_n dX6_become_93 rfl ?_
      refine V_getr (b := (u + 3)) 6 8 dX6_become_94 (Or.inl lkX6_25) rfl (sW huw (o := 0) (by omega)) ⟨by omega, by omega⟩ (hR2 _ _ _ (rW huw (o := 0) (k := 8) (by omega) (by omega) rfl)) ?_
      refine V_iconst (v := 0) dX6_become_97 rfl ?_
      refine V_aload_n dX6_become_98 rfl ?_
      refine V_getr (b := (w + 3)) 6 8 dX6_become_99 (Or.inl lkX6_25) rfl (sW hw (o := 0) (by omega)) ⟨by omega, by omega⟩ (hR2 _ _ _ (rW hw (o := 0) (k := 8) (by omega) (by omega) rfl)) ?_
      refine V_iconst (v := 0) dX6_become_102 rfl ?_
      refine V_iconst (v := 5) dX6_become_103 rfl ?_
      refine V_copy (t := 0) (len := 5) dX6_become_104 mlX6_73 nat_copy sm_copy iniJ10 (sW huw (o := 3) (by omega)) (sW hw (o := 3) (by omega)) (by decide) ⟨by omega, by omega⟩ ⟨by omega, by omega⟩ rfl (by decide) (fun _ _ => rfl) (by decide) (Nat.le_of_ble_eq_true rfl) ?_
      refine V_aload_n dX6_become_107 rfl ?_
      refine V_getr (b := (u + 4)) 6 9 dX6_become_108 (Or.inl lkX6_28) rfl (sW huw (o := 0) (by omega)) ⟨by omega, by omega⟩ (hR2 _ _ _ (rW huw (o := 0) (k := 9) (by omega) (by omega) rfl)) ?_
      refine V_iconst (v := 0) dX6_become_111 rfl ?_
      refine V_aload_n dX6_become_112 rfl ?_
      refine V_getr (b := (w + 4)) 6 9 dX6_become_113 (Or.inl lkX6_28) rfl (sW hw (o := 0) (by omega)) ⟨by omega, by omega⟩ (hR2 _ _ _ (rW hw (o := 0) (k := 9) (by omega) (by omega) rfl)) ?_
      refine V_iconst (v := 0) dX6_become_116 rfl ?_
      refine V_bipush (v := 100) dX6_become_117 rfl ?_
      refine V_copy (t := 1) (len := 100) dX6_become_119 mlX6_73 nat_copy sm_copy iniJ10 (sW huw (o := 4) (by omega)) (sW hw (o := 4) (by omega)) (by decide) ⟨by omega, by omega⟩ ⟨by omega, by omega⟩ rfl (by decide) (fun j hj => by first | rfl | (rw [show (cp2 (cp2 mj (u + 2) (w + 2) 5) (u + 3) (w + 3) 5) (u + 4) j = mi (u + 4) j from (by simp only [cp2]; rw [if_neg (by omega), if_neg (by omega)]; exact kj (u + 4) (by omega) j)]; exact hch j hj)) (by decide) (Nat.le_of_ble_eq_true rfl) ?_
      have k1 : Keep w mi (cp2 (cp2 (cp2 mj (u + 2) (w + 2) 5) (u + 3) (w + 3) 5) (u + 4) (w + 4) 100) := ((kj.cp (by omega)).cp (by omega)).cp (by omega)
      obtain ⟨m1, hm1⟩ : ∃ m1, m1 = cp2 (cp2 (cp2 mj (u + 2) (w + 2) 5) (u + 3) (w + 3) 5) (u + 4) (w + 4) 100 := ⟨_, rfl⟩
      rw [← hm1] at k1 ⊢
      refine V_aload_n dX6_become_122 rfl ?_
      refine V_getr (b := (w + 5)) 6 10 dX6_become_123 (Or.inl lkX6_37) rfl (sW hw (o := 0) (by omega)) ⟨by omega, by omega⟩ (hR2 _ _ _ (rW hw (o := 0) (k := 10) (by omega) (by omega) rfl)) ?_
      refine V_aload_n dX6_become_126 rfl ?_
      refine V_getr (b := (u + 5)) 6 10 dX6_become_127 (Or.inl lkX6_37) rfl (sW huw (o := 0) (by omega)) ⟨by omega, by omega⟩ (hR2 _ _ _ (rW huw (o := 0) (k := 10) (by omega) (by omega) rfl)) ?_
      refine V_callV (ci := 3) (qX3_become _ _ _ hR2 hn (w + 5) (u + 5) 5 (Or.inl ⟨w, hw, rfl, rfl⟩) (Or.inl ⟨u, huw, rfl, rfl⟩) (by have := hne; rcases hw with rfl | rfl | rfl <;> rcases huw with rfl | rfl | rfl <;> omega) sv (by rw [k1 (u + 5) (by omega)]; exact h5) h5l (by omega)) dX6_become_130 mlX6_79 mtX3_become ivX3_become rfl (sW hw (o := 5) (by omega)) ⟨by omega, by omega⟩ (by decide) rfl rfl (by decide) (Nat.le_of_ble_eq_true rfl) rfl rfl ?_
      rintro _ _ m2 _ ⟨rfl, rfl, rfl, o2, e2, f2⟩
      have k2 : Keep w mi m2 := k1.off o2 (fun a k h => by unfold offR at h; omega)
      refine V_aload_n dX6_become_133 rfl ?_
      refine V_getr (b := (w + 9)) 6 11 dX6_become_134 (Or.inl lkX6_41) rfl (sW hw (o := 0) (by omega)) ⟨by omega, by omega⟩ (hR2 _ _ _ (rW hw (o := 0) (k := 11) (by omega) (by omega) rfl)) ?_
      refine V_aload_n dX6_become_137 rfl ?_
      refine V_getr (b := (u + 9)) 6 11 dX6_become_138 (Or.inl lkX6_41) rfl (sW huw (o := 0) (by omega)) ⟨by omega, by omega⟩ (hR2 _ _ _ (rW huw (o := 0) (k := 11) (by omega) (by omega) rfl)) ?_
      refine V_callV (ci := 3) (qX3_become _ _ _ hR2 hn (w + 9) (u + 9) 8 (Or.inr (Or.inl ⟨w, hw, rfl, rfl⟩)) (Or.inr (Or.inl ⟨u, huw, rfl, rfl⟩)) (by have := hne; rcases hw with rfl | rfl | rfl <;> rcases huw with rfl | rfl | rfl <;> omega) sn (by rw [k2 (u + 9) (by omega)]; exact h9) h9l (by omega)) dX6_become_141 mlX6_79 mtX3_become ivX3_become rfl (sW hw (o := 9) (by omega)) ⟨by omega, by omega⟩ (by decide) rfl rfl (by decide) (Nat.le_of_ble_eq_true rfl) rfl rfl ?_
      rintro _ _ m3 _ ⟨rfl, rfl, rfl, o3, e3, f3⟩
      have k3 : Keep w mi m3 := k2.off o3 (fun a k h => by unfold offR at h; omega)
      refine V_aload_n dX6_become_144 rfl ?_
      refine V_getr (b := (w + 13)) 6 12 dX6_become_145 (Or.inl lkX6_44) rfl (sW hw (o := 0) (by omega)) ⟨by omega, by omega⟩ (hR2 _ _ _ (rW hw (o := 0) (k := 12) (by omega) (by omega) rfl)) ?_
      refine V_aload_n dX6_become_148 rfl ?_
      refine V_getr (b := (u + 13)) 6 12 dX6_become_149 (Or.inl lkX6_44) rfl (sW huw (o := 0) (by omega)) ⟨by omega, by omega⟩ (hR2 _ _ _ (rW huw (o := 0) (k := 12) (by omega) (by omega) rfl)) ?_
      refine V_callV (ci := 3) (qX3_become _ _ _ hR2 hn (w + 13) (u + 13) 8 (Or.inr (Or.inr ⟨w, hw, rfl, rfl⟩)) (Or.inr (Or.inr ⟨u, huw, rfl, rfl⟩)) (by have := hne; rcases hw with rfl | rfl | rfl <;> rcases huw with rfl | rfl | rfl <;> omega) sb (by rw [k3 (u + 13) (by omega)]; exact h13) h13l (by omega)) dX6_become_152 mlX6_79 mtX3_become ivX3_become rfl (sW hw (o := 13) (by omega)) ⟨by omega, by omega⟩ (by decide) rfl rfl (by decide) (Nat.le_of_ble_eq_true rfl) rfl rfl ?_
      rintro _ _ m4 _ ⟨rfl, rfl, rfl, o4, e4, f4⟩
      have k4 : Keep w mi m4 := k3.off o4 (fun a k h => by unfold offR at h; omega)
      refine V_ret dX6_become_155 rfl ?_
      have t4 : ∀ a k, ¬ offR (w + 5) a k → ¬ offR (w + 9) a k → ¬ offR (w + 13) a k → m4 a k = m1 a k := fun a k q2 q3 q4 => ((o4 a k q4).trans (o3 a k q3)).trans (o2 a k q2)
      have tj : ∀ a k, a ≠ w + 2 → a ≠ w + 3 → a ≠ w + 4 → m1 a k = mj a k := fun a k q2 q3 q4 => by
        rw [hm1]
        simp only [cp2]
        rw [if_neg (by omega), if_neg (by omega), if_neg (by omega)]
      refine ⟨rfl, rfl, rfl, k4, ⟨?_, ?_, ?_, ?_, ?_, ?_, ?_⟩, ?_, ?_⟩
      · intro k hk
        rw [t4 w k (by unfold offR; omega) (by unfold offR; omega) (by unfold offR; omega), tj w k (by omega) (by omega) (by omega), ho w k (by rintro ⟨p, hp, h⟩; unfold offP at h; omega)]
        exact hf0 k hk
      · intro p hp
        have h9 : ∀ a, (a = w + 18 + 2 * p ∨ a = w + 18 + 2 * p + 1) → ∀ k, m4 a k = mj a k := fun a ha k => (t4 a k (by unfold offR; omega) (by unfold offR; omega) (by unfold offR; omega)).trans (tj a k (by omega) (by omega) (by omega))
        obtain ⟨i1, i2, i3, i4, i5, i6⟩ := hper p hp
        exact ⟨(h9 _ (Or.inl rfl) _).trans i1, (h9 _ (Or.inl rfl) _).trans i2, (h9 _ (Or.inl rfl) _).trans i3, (h9 _ (Or.inl rfl) _).trans i4, (h9 _ (Or.inl rfl) _).trans i5, fun k hk => (h9 _ (Or.inr rfl) _).trans (i6 k hk)⟩
      · intro k hk
        have u2 := kj (u + 2) (by omega) k
        have u3 := kj (u + 3) (by omega) k
        have q1 : ¬ u + 3 = w + 2 := by omega
        constructor
        · rw [t4 (w + 2) k (by unfold offR; omega) (by unfold offR; omega) (by unfold offR; omega), hm1]
          simp [cp2, hk, u2]
        · rw [t4 (w + 3) k (by unfold offR; omega) (by unfold offR; omega) (by unfold offR; omega), hm1]
          simp [cp2, hk, u3, q1]
      · intro k hk
        have u4 := kj (u + 4) (by omega) k
        have q1 : ¬ u + 4 = w + 2 := by omega
        have q2 : ¬ u + 4 = w + 3 := by omega
        rw [t4 (w + 4) k (by unfold offR; omega) (by unfold offR; omega) (by unfold offR; omega), hm1]
        simp [cp2, hk, u4, q1, q2]
      · have g : ∀ a, w + 5 ≤ a ∧ a ≤ w + 8 → ∀ k, m4 a k = m2 a k := fun a ha k => (o4 a k (by unfold offR; omega)).trans (o3 a k (by unfold offR; omega))
        refine ⟨(g _ (by omega) _).trans (e2.trans (k1 _ (by omega) _)), fun j hj => ?_⟩
        obtain ⟨x1, x2, x3⟩ := f2 j hj
        exact ⟨(g _ (by omega) _).trans (x1.trans (k1 _ (by omega) _)), (g _ (by omega) _).trans (x2.trans (k1 _ (by omega) _)), (g _ (by omega) _).trans (x3.trans (k1 _ (by omega) _))⟩
      · have g : ∀ a, w + 9 ≤ a ∧ a ≤ w + 12 → ∀ k, m4 a k = m3 a k := fun a ha k => o4 a k (by unfold offR; omega)
        refine ⟨(g _ (by omega) _).trans (e3.trans (k2 _ (by omega) _)), fun j hj => ?_⟩
        obtain ⟨x1, x2, x3⟩ := f3 j hj
        exact ⟨(g _ (by omega) _).trans (x1.trans (k2 _ (by omega) _)), (g _ (by omega) _).trans (x2.trans (k2 _ (by omega) _)), (g _ (by omega) _).trans (x3.trans (k2 _ (by omega) _))⟩
      · refine ⟨e4.trans (k3 _ (by omega) _), fun j hj => ?_⟩
        obtain ⟨x1, x2, x3⟩ := f4 j hj
        exact ⟨x1.trans (k3 _ (by omega) _), x2.trans (k3 _ (by omega) _), x3.trans (k3 _ (by omega) _)⟩
      · intro p hp
        rw [t4 _ 0 (by unfold offR; omega) (by unfold offR; omega) (by unfold offR; omega), tj _ 0 (by omega) (by omega) (by omega), ho _ 0 (by rintro ⟨q, hq, h⟩; unfold offP at h; omega)]
        exact ho0 _ 0 (by omega)
      · funext k
        rw [t4 _ k (by unfold offR; omega) (by unfold offR; omega) (by unfold offR; omega), tj _ k (by omega) (by omega) (by omega), ho _ k (by rintro ⟨q, hq, h⟩; unfold offP at h; omega)]
        exact ho0 _ k (by omega)
    | succ m ih =>
      intro i x mj him hx ho hper
      have kj : Keep w mi mj := k0.off ho (fun a k => by rintro ⟨p, hp, h⟩; unfold offP at h; omega)
      have hw1 : (mj w 1).toInt = (N : Int) := by
        rw [ho w 1 (by rintro ⟨p, hp, h⟩; unfold offP at h; omega), hf0 1 (by omega)]
        exact hN
      refine V_iload_n dX6_become_50 rfl ?_
      refine V_aload_n dX6_become_51 rfl ?_
      refine V_geti 6 1 dX6_become_52 (Or.inl lkX6_57) rfl (sW hw (o := 0) (by omega)) ⟨by omega, by omega⟩ ?_
      refine V_icmp_ge (tgt := 79) dX6_become_55 (by decide) (fun c55 => absurd ((le_nat hw1 hx).mp c55) (by omega)) (fun c55 => ?_)
      refine V_aload_n dX6_become_58 rfl ?_
      refine V_getr (b := (w + 1)) 6 6 dX6_become_59 (Or.inl lkX6_17) rfl (sW hw (o := 0) (by omega)) ⟨by omega, by omega⟩ (hR2 _ _ _ (rW hw (o := 0) (k := 6) (by omega) (by omega) rfl)) ?_
      refine V_iload_n dX6_become_62 rfl ?_
      refine V_aald (len := 6) (b := (w + 18 + 2 * i)) 5 i dX6_become_63 (sW hw (o := 1) (by omega)) rfl ⟨by omega, by omega⟩ hx (by omega) (hR2 _ _ _ (rFolk hw (by omega))) ?_
      refine V_aload_n dX6_become_64 rfl ?_
      refine V_getr (b := (u + 1)) 6 6 dX6_become_65 (Or.inl lkX6_17) rfl (sW huw (o := 0) (by omega)) ⟨by omega, by omega⟩ (hR2 _ _ _ (rW huw (o := 0) (k := 6) (by omega) (by omega) rfl)) ?_
      refine V_iload_n dX6_become_68 rfl ?_
      refine V_aald (len := 6) (b := (u + 18 + 2 * i)) 5 i dX6_become_69 (sW huw (o := 1) (by omega)) rfl ⟨by omega, by omega⟩ hx (by omega) (hR2 _ _ _ (rFolk huw (by omega))) ?_
      refine V_callV (ci := 1) (qX1_become _ _ _ hR2 hn _ (pOf hw (by omega)) _ (pOf huw (by omega)) (by omega)) dX6_become_70 mlX6_69 mtX1_become ivX1_become rfl (sP (pOf hw (by omega))) ⟨by omega, by omega⟩ (by decide) rfl rfl (by decide) (Nat.le_of_ble_eq_true rfl) rfl rfl ?_
      rintro _ _ mk _ ⟨rfl, rfl, rfl, ho2, hi2⟩
      refine V_iinc (v := _ + (1)) (L' := [_, _, _]) dX6_become_73 (by decide) rfl rfl rfl rfl ?_
      refine V_goto (tgt := 50) dX6_become_76 (by decide) ?_
      refine ih (i + 1) _ _ (by omega) (ix_add hx (by decide) (by omega)) ((ho.mono (fun a k => by rintro ⟨p, hp, h⟩; exact ⟨p, by omega, h⟩)).tr (ho2.mono (fun a k h => ⟨i, by omega, h⟩))) (fun p hp => ?_)
      by_cases e : p = i
      · subst e
        have h9 : ∀ a, (a = u + 18 + 2 * p ∨ a = u + 18 + 2 * p + 1) → ∀ k, mj a k = mi a k := fun a ha k => kj a (by omega) k
        obtain ⟨i1, i2, i3, i4, i5, i6⟩ := hi2
        exact ⟨i1.trans (h9 _ (Or.inl rfl) _), i2.trans (h9 _ (Or.inl rfl) _), i3.trans (h9 _ (Or.inl rfl) _), i4.trans (h9 _ (Or.inl rfl) _), i5.trans (h9 _ (Or.inl rfl) _), fun k hk => (i6 k hk).trans (h9 _ (Or.inr rfl) _)⟩
      · obtain ⟨i1, i2, i3, i4, i5, i6⟩ := hper p (by omega)
        have h9 : ∀ a, (a = w + 18 + 2 * p ∨ a = w + 18 + 2 * p + 1) → ∀ k, mk a k = mj a k := fun a ha k => ho2 a k (by unfold offP; omega)
        exact ⟨(h9 _ (Or.inl rfl) _).trans i1, (h9 _ (Or.inl rfl) _).trans i2, (h9 _ (Or.inl rfl) _).trans i3, (h9 _ (Or.inl rfl) _).trans i4, (h9 _ (Or.inl rfl) _).trans i5, fun k hk => (h9 _ (Or.inr rfl) _).trans (i6 k hk)⟩
  exact loop N 0 _ _ (by omega) (by decide) Off.rf (fun p hp => absurd hp (by omega))
