theorem RTw5 {w : Nat} (h : isW w) : RT w 5 = none := by rcases h with rfl | rfl | rfl <;> rfl
/-- nothing outside the world at w is changed -/
def Keep (w : Nat) (mi m : MI) : Prop := ∀ a, ¬ (w ≤ a ∧ a ≤ w + 29) → ∀ k, m a k = mi a k
theorem Keep.up {w : Nat} {mi m : MI} {a k : Nat} {x : Int32} (h : Keep w mi m) (ha : w ≤ a ∧ a ≤ w + 29) : Keep w mi (up2 m a k x) := fun b hb j => by
  simp only [up2]
  rw [if_neg (by rintro ⟨rfl, -⟩; exact hb ha)]
  exact h b hb j
theorem Keep.cp {w : Nat} {mi m : MI} {s a len : Nat} (h : Keep w mi m) (ha : w ≤ a ∧ a ≤ w + 29) : Keep w mi (cp2 m s a len) := fun b hb j => by
  simp only [cp2]
  rw [if_neg (by rintro ⟨rfl, -⟩; exact hb ha)]
  exact h b hb j
theorem Keep.off {w : Nat} {mi m m' : MI} {S : Nat → Nat → Prop} (h : Keep w mi m) (ho : Off S m m') (hs : ∀ a k, S a k → w ≤ a ∧ a ≤ w + 29) : Keep w mi m' := fun b hb j => (ho b j (fun q => hb (hs b j q))).trans (h b hb j)
def charOK (mi : MI) (w : Nat) : Prop := ∀ j, j < 100 → fits .char (.int (mi (w + 4) j)) = true
/-- the world at w is now as that at u was -/
def copyW (mi m : MI) (w u N sv sn sb : Nat) : Prop :=
  (∀ k, k < 5 → m w k = mi u k) ∧ (∀ p, p < N → perIs m (w + 18 + 2 * p) (mi (u + 18 + 2 * p) 1) (mi (u + 18 + 2 * p) 2) (mi (u + 18 + 2 * p) 3) (mi (u + 18 + 2 * p) 4) (mi (u + 18 + 2 * p) 5) (mi (u + 18 + 2 * p + 1))) ∧
  (∀ k, k < 5 → m (w + 2) k = mi (u + 2) k ∧ m (w + 3) k = mi (u + 3) k) ∧ (∀ k, k < 100 → m (w + 4) k = mi (u + 4) k) ∧
  (m (w + 5) 3 = mi (u + 5) 3 ∧ ∀ j, j < sv → m (w + 5 + 1) j = mi (u + 5 + 1) j ∧ m (w + 5 + 2) j = mi (u + 5 + 2) j ∧ m (w + 5 + 3) j = mi (u + 5 + 3) j) ∧
  (m (w + 9) 3 = mi (u + 9) 3 ∧ ∀ j, j < sn → m (w + 9 + 1) j = mi (u + 9 + 1) j ∧ m (w + 9 + 2) j = mi (u + 9 + 2) j ∧ m (w + 9 + 3) j = mi (u + 9 + 3) j) ∧
  (m (w + 13) 3 = mi (u + 13) 3 ∧ ∀ j, j < sb → m (w + 13 + 1) j = mi (u + 13 + 1) j ∧ m (w + 13 + 2) j = mi (u + 13 + 2) j ∧ m (w + 13 + 3) j = mi (u + 13 + 3) j)
/-- the number of each is its place -/
def keepNum (mi m : MI) (w : Nat) : Prop := ∀ p, p < 6 → m (w + 18 + 2 * p) 0 = mi (w + 18 + 2 * p) 0
set_option maxRecDepth 4000 in
theorem qX6_liveThroughNight (n : Nat) (mi : MI) (mr : MR) (hR : RF mr) (hn : 186 ≤ n) (w : Nat) (hw : isW w) (N : Nat) (hN : (mi w 1).toInt = (N : Int)) (hN6 : N ≤ 6) (Nv S : Nat) (hNv5 : Nv ≤ 5) (hS : (mi (w + 9) 3).toInt = (S : Int)) (hS8 : S ≤ 8) (hNi : nightOK mi w N Nv S)  : Ct KX6_liveThroughNight 2 0 0 [.ref w] n mi mr (eqQ none n (liveTo mi w N S) mr) := by
  refine Ct.of2 [some (.ref w), none] (by decide +kernel) (Nat.le_of_ble_eq_true rfl) rfl ?_
  have hwl := hw.le
  refine V_iconst (v := 0) dX6_liveThroughNight_0 rfl ?_
  refine V_istore_n (L' := [_, _]) dX6_liveThroughNight_1 (by decide) rfl rfl ?_
  have loop : ∀ (m i : Nat) (x : Int32), i + m = S → x.toInt = (i : Int) → V KX6_liveThroughNight 2 0 0 (eqQ none n (liveTo mi w N S) mr) 2 [some (.ref w), some (.int x)] [] n (liveTo mi w N i) mr := by
    intro m
    induction m with
    | zero =>
      intro i x him hx
      have hof := liveTo_off (mi := mi) (w := w) (N := N) i
      have hw1 : (liveTo mi w N i) w 1 = mi w 1 := hof w 1 (by unfold offN; rintro (h | h | ⟨p, h⟩) <;> omega)
      have hw9 : (liveTo mi w N i) (w + 9) 3 = mi (w + 9) 3 := hof (w + 9) 3 (by unfold offN; rintro (h | h | ⟨p, h⟩) <;> omega)
      have hw10 : (liveTo mi w N i) (w + 9 + 1) i = mi (w + 10) i := hof (w + 10) i (by unfold offN; rintro (h | h | ⟨p, h⟩) <;> omega)
      have hw11 : (liveTo mi w N i) (w + 9 + 2) i = mi (w + 11) i := hof (w + 11) i (by unfold offN; rintro (h | h | ⟨p, h⟩) <;> omega)
      have hw12 : (liveTo mi w N i) (w + 9 + 3) i = mi (w + 12) i := hof (w + 12) i (by unfold offN; rintro (h | h | ⟨p, h⟩) <;> omega)
      refine V_iload_n dX6_liveThroughNight_2 rfl ?_
      refine V_aload_n dX6_liveThroughNight_3 rfl ?_
      refine V_getr (b := (w + 9)) 6 11 dX6_liveThroughNight_4 (Or.inl lkX6_41) rfl (sW hw (o := 0) (by omega)) ⟨by omega, by omega⟩ (hR _ _ _ (rW hw (o := 0) (k := 11) (by omega) (by omega) rfl)) ?_
      refine V_geti 3 3 dX6_liveThroughNight_7 lnX6_121 rfl (sW hw (o := 9) (by omega)) ⟨by omega, by omega⟩ ?_
      refine V_icmp_ge (tgt := 96) dX6_liveThroughNight_10 (by decide) (fun c10 => ?_) (fun c10 => absurd ((le_nat (by rw [hw9]; exact hS) hx).mpr (by omega)) c10)
      refine V_ret dX6_liveThroughNight_96 rfl ?_
      have hi : i = S := by omega
      subst hi
      exact ⟨rfl, rfl, rfl, rfl⟩
    | succ m ih =>
      intro i x him hx
      have hof := liveTo_off (mi := mi) (w := w) (N := N) i
      have hw1 : (liveTo mi w N i) w 1 = mi w 1 := hof w 1 (by unfold offN; rintro (h | h | ⟨p, h⟩) <;> omega)
      have hw9 : (liveTo mi w N i) (w + 9) 3 = mi (w + 9) 3 := hof (w + 9) 3 (by unfold offN; rintro (h | h | ⟨p, h⟩) <;> omega)
      have hw10 : (liveTo mi w N i) (w + 9 + 1) i = mi (w + 10) i := hof (w + 10) i (by unfold offN; rintro (h | h | ⟨p, h⟩) <;> omega)
      have hw11 : (liveTo mi w N i) (w + 9 + 2) i = mi (w + 11) i := hof (w + 11) i (by unfold offN; rintro (h | h | ⟨p, h⟩) <;> omega)
      have hw12 : (liveTo mi w N i) (w + 9 + 3) i = mi (w + 12) i := hof (w + 12) i (by unfold offN; rintro (h | h | ⟨p, h⟩) <;> omega)
      refine V_iload_n dX6_liveThroughNight_2 rfl ?_
      refine V_aload_n dX6_liveThroughNight_3 rfl ?_
      refine V_getr (b := (w + 9)) 6 11 dX6_liveThroughNight_4 (Or.inl lkX6_41) rfl (sW hw (o := 0) (by omega)) ⟨by omega, by omega⟩ (hR _ _ _ (rW hw (o := 0) (k := 11) (by omega) (by omega) rfl)) ?_
      refine V_geti 3 3 dX6_liveThroughNight_7 lnX6_121 rfl (sW hw (o := 9) (by omega)) ⟨by omega, by omega⟩ ?_
      refine V_icmp_ge (tgt := 96) dX6_liveThroughNight_10 (by decide) (fun c10 => absurd ((le_nat (by rw [hw9]; exact hS) hx).mp c10) (by omega)) (fun c10 => ?_)
      refine V_aload_n dX6_liveThroughNight_13 rfl ?_
      refine V_getr (b := (w + 9)) 6 11 dX6_liveThroughNight_14 (Or.inl lkX6_41) rfl (sW hw (o := 0) (by omega)) ⟨by omega, by omega⟩ (hR _ _ _ (rW hw (o := 0) (k := 11) (by omega) (by omega) rfl)) ?_
      refine V_getr (b := ((w + 9) + 1)) 3 0 dX6_liveThroughNight_17 lnX6_124 rfl (sW hw (o := 9) (by omega)) ⟨by omega, by omega⟩ (hR _ _ _ (rR (Or.inr (Or.inl ⟨w, hw, rfl, rfl⟩)) (k := 0) (by omega))) ?_
      refine V_iload_n dX6_liveThroughNight_20 rfl ?_
      refine V_iald (len := 8) i dX6_liveThroughNight_21 (sRa (Or.inr (Or.inl ⟨w, hw, rfl, rfl⟩)) (k := 0) (by omega)) ⟨by omega, by omega⟩ hx (by omega) ?_
      refine V_if_ne (tgt := 33) dX6_liveThroughNight_22 (by decide) (fun c22 => ?_) (fun c22 => ?_)
      · obtain ⟨⟨p, hp1, hp2⟩, hv⟩ := (hNi i (by omega)).resolve_left (by rw [← hw10]; exact c22)
        refine V_aload_n dX6_liveThroughNight_33 rfl ?_
        refine V_getr (b := (w + 9)) 6 11 dX6_liveThroughNight_34 (Or.inl lkX6_41) rfl (sW hw (o := 0) (by omega)) ⟨by omega, by omega⟩ (hR _ _ _ (rW hw (o := 0) (k := 11) (by omega) (by omega) rfl)) ?_
        refine V_getr (b := ((w + 9) + 1)) 3 0 dX6_liveThroughNight_37 lnX6_124 rfl (sW hw (o := 9) (by omega)) ⟨by omega, by omega⟩ (hR _ _ _ (rR (Or.inr (Or.inl ⟨w, hw, rfl, rfl⟩)) (k := 0) (by omega))) ?_
        refine V_iload_n dX6_liveThroughNight_40 rfl ?_
        refine V_iald (len := 8) i dX6_liveThroughNight_41 (sRa (Or.inr (Or.inl ⟨w, hw, rfl, rfl⟩)) (k := 0) (by omega)) ⟨by omega, by omega⟩ hx (by omega) ?_
        refine V_iconst (v := 1) dX6_liveThroughNight_42 rfl ?_
        refine V_icmp_ne (tgt := 72) dX6_liveThroughNight_43 (by decide) (fun c43 => ?_) (fun c43 => ?_)
        · refine V_aload_n dX6_liveThroughNight_72 rfl ?_
          refine V_getr (b := (w + 1)) 6 6 dX6_liveThroughNight_73 (Or.inl lkX6_17) rfl (sW hw (o := 0) (by omega)) ⟨by omega, by omega⟩ (hR _ _ _ (rW hw (o := 0) (k := 6) (by omega) (by omega) rfl)) ?_
          refine V_aload_n dX6_liveThroughNight_76 rfl ?_
          refine V_getr (b := (w + 9)) 6 11 dX6_liveThroughNight_77 (Or.inl lkX6_41) rfl (sW hw (o := 0) (by omega)) ⟨by omega, by omega⟩ (hR _ _ _ (rW hw (o := 0) (k := 11) (by omega) (by omega) rfl)) ?_
          refine V_getr (b := ((w + 9) + 2)) 3 1 dX6_liveThroughNight_80 lnX6_130 rfl (sW hw (o := 9) (by omega)) ⟨by omega, by omega⟩ (hR _ _ _ (rR (Or.inr (Or.inl ⟨w, hw, rfl, rfl⟩)) (k := 1) (by omega))) ?_
          refine V_iload_n dX6_liveThroughNight_83 rfl ?_
          refine V_iald (len := 8) i dX6_liveThroughNight_84 (sRa (Or.inr (Or.inl ⟨w, hw, rfl, rfl⟩)) (k := 1) (by omega)) ⟨by omega, by omega⟩ hx (by omega) ?_
          refine V_aald (len := 6) (b := (w + 18 + 2 * p)) 5 p dX6_liveThroughNight_85 (sW hw (o := 1) (by omega)) rfl ⟨by omega, by omega⟩ (by rw [hw11]; exact hp1) (by omega) (hR _ _ _ (rFolk hw (by omega))) ?_
          refine V_iconst (v := -1) dX6_liveThroughNight_86 rfl ?_
          refine V_puti 1 5 dX6_liveThroughNight_87 lnX6_112 rfl rfl rfl (sP (pOf hw (by omega))) ⟨by omega, by omega⟩ ?_
          refine V_iinc (v := _ + (1)) (L' := [_, _]) dX6_liveThroughNight_90 (by decide) rfl rfl rfl rfl ?_
          refine V_goto (tgt := 2) dX6_liveThroughNight_93 (by decide) ?_
          refine V.eq (ih (i + 1) _ (by omega) (ix_add hx (by decide) (by omega))) rfl rfl rfl rfl ?_ rfl
          show nStep (liveTo mi w N i) mi w N i = _
          unfold nStep
          rw [hw10] at c22
          first
            | rw [if_pos c22]
            | (rw [hw10] at c43
               first
                | (rw [if_neg c22, if_pos c43, nat_of_toInt hp1, nat_of_toInt hv1]; try rw [hw12])
                | (rw [if_neg c22, if_neg c43, nat_of_toInt hp1]))
        · obtain ⟨v, hv1, hv2⟩ := hv (by rw [← hw10]; exact c43)
          refine V_aload_n dX6_liveThroughNight_46 rfl ?_
          refine V_aload_n dX6_liveThroughNight_47 rfl ?_
          refine V_getr (b := (w + 9)) 6 11 dX6_liveThroughNight_48 (Or.inl lkX6_41) rfl (sW hw (o := 0) (by omega)) ⟨by omega, by omega⟩ (hR _ _ _ (rW hw (o := 0) (k := 11) (by omega) (by omega) rfl)) ?_
          refine V_getr (b := ((w + 9) + 2)) 3 1 dX6_liveThroughNight_51 lnX6_130 rfl (sW hw (o := 9) (by omega)) ⟨by omega, by omega⟩ (hR _ _ _ (rR (Or.inr (Or.inl ⟨w, hw, rfl, rfl⟩)) (k := 1) (by omega))) ?_
          refine V_iload_n dX6_liveThroughNight_54 rfl ?_
          refine V_iald (len := 8) i dX6_liveThroughNight_55 (sRa (Or.inr (Or.inl ⟨w, hw, rfl, rfl⟩)) (k := 1) (by omega)) ⟨by omega, by omega⟩ hx (by omega) ?_
          refine V_aload_n dX6_liveThroughNight_56 rfl ?_
          refine V_getr (b := (w + 9)) 6 11 dX6_liveThroughNight_57 (Or.inl lkX6_41) rfl (sW hw (o := 0) (by omega)) ⟨by omega, by omega⟩ (hR _ _ _ (rW hw (o := 0) (k := 11) (by omega) (by omega) rfl)) ?_
          refine V_getr (b := ((w + 9) + 3)) 3 2 dX6_liveThroughNight_60 lnX6_133 rfl (sW hw (o := 9) (by omega)) ⟨by omega, by omega⟩ (hR _ _ _ (rR (Or.inr (Or.inl ⟨w, hw, rfl, rfl⟩)) (k := 2) (by omega))) ?_
          refine V_iload_n dX6_liveThroughNight_63 rfl ?_
          refine V_iald (len := 8) i dX6_liveThroughNight_64 (sRa (Or.inr (Or.inl ⟨w, hw, rfl, rfl⟩)) (k := 2) (by omega)) ⟨by omega, by omega⟩ hx (by omega) ?_
          refine V_callV (ci := 6) (qX6_pourOut _ _ _ hR hn _ hw _ _ p v (by rw [hw11]; exact hp1) (by omega) (by rw [hw12]; exact hv1) (by omega)) dX6_liveThroughNight_65 mlX6_136 mtX6_pourOut ivX6_pourOut rfl (sW hw (o := 0) (by omega)) ⟨by omega, by omega⟩ (by decide) rfl rfl (by decide) (Nat.le_of_ble_eq_true rfl) rfl rfl ?_
          rintro _ _ _ _ ⟨rfl, rfl, rfl, rfl⟩
          refine V_pop dX6_liveThroughNight_68 rfl ?_
          refine V_goto (tgt := 90) dX6_liveThroughNight_69 (by decide) ?_
          refine V_iinc (v := _ + (1)) (L' := [_, _]) dX6_liveThroughNight_90 (by decide) rfl rfl rfl rfl ?_
          refine V_goto (tgt := 2) dX6_liveThroughNight_93 (by decide) ?_
          refine V.eq (ih (i + 1) _ (by omega) (ix_add hx (by decide) (by omega))) rfl rfl rfl rfl ?_ rfl
          show nStep (liveTo mi w N i) mi w N i = _
          unfold nStep
          rw [hw10] at c22
          first
            | rw [if_pos c22]
            | (rw [hw10] at c43
               first
                | (rw [if_neg c22, if_pos c43, nat_of_toInt hp1, nat_of_toInt hv1]; try rw [hw12])
                | (rw [if_neg c22, if_neg c43, nat_of_toInt hp1]))
      · refine V_aload_n dX6_liveThroughNight_25 rfl ?_
        refine V_iconst (v := 1) dX6_liveThroughNight_26 rfl ?_
        refine V_callV (ci := 6) (qX6_growLight _ _ _ hR hn _ hw N (by rw [hw1]; exact hN) hN6 _) dX6_liveThroughNight_27 mlX6_127 mtX6_growLight ivX6_growLight rfl (sW hw (o := 0) (by omega)) ⟨by omega, by omega⟩ (by decide) rfl rfl (by decide) (Nat.le_of_ble_eq_true rfl) rfl rfl ?_
        rintro _ _ _ _ ⟨rfl, rfl, rfl, rfl⟩
        refine V_goto (tgt := 90) dX6_liveThroughNight_30 (by decide) ?_
        refine V_iinc (v := _ + (1)) (L' := [_, _]) dX6_liveThroughNight_90 (by decide) rfl rfl rfl rfl ?_
        refine V_goto (tgt := 2) dX6_liveThroughNight_93 (by decide) ?_
        refine V.eq (ih (i + 1) _ (by omega) (ix_add hx (by decide) (by omega))) rfl rfl rfl rfl ?_ rfl
        show nStep (liveTo mi w N i) mi w N i = _
        unfold nStep
        rw [hw10] at c22
        first
          | rw [if_pos c22]
          | (rw [hw10] at c43
             first
              | (rw [if_neg c22, if_pos c43, nat_of_toInt hp1, nat_of_toInt hv1]; try rw [hw12])
              | (rw [if_neg c22, if_neg c43, nat_of_toInt hp1]))
  exact loop S 0 _ (by omega) (by decide)
