/-- image and undo -/
def imQ (mi : MI) (mr : MR) (n : Nat) (c : CT) : QT := fun r n' mi' mr' => some (.int (mi 174 12)) = r ∧ n = n' ∧ up2 mr 70 5 (some (hvOf (mi 174))) = mr' ∧ ∃ m1, mi' = up2 m1 32 6 1 ∧ Keep 70 mi m1 ∧ copyW mi m1 70 40 (cN c) (cS c) (cP c) (cB c)
def unQ (mi : MI) (mr : MR) (n : Nat) (c : CT) : QT := fun r n' mi' mr' => (mi 32 6 = 0 ∧ some (.int (-3)) = r ∧ n = n' ∧ mi = mi' ∧ mr = mr') ∨ (¬ mi 32 6 = 0 ∧ some (.int (mi 175 12)) = r ∧ n = n' ∧ up2 mr 40 5 (some (hvOf (mi 175))) = mr' ∧ ∃ c2 : CT, BD (mi 175) c2 ∧ CI (mi 175) c2 mi mr 70 ∧ cL c2 ≤ cL c ∧ Keep 40 mi mi' ∧ copyW mi mi' 40 70 (cN c2) (cS c2) (cP c2) (cB c2) ∧ keepNum mi mi' 40)
def mImage (mi : MI) : MI := up2 (cp2 mi 174 175 938) 173 4 1
def mUndo (mi : MI) : MI := if mi 173 4 = 0 then mi else cp2 mi 175 174 938
def sUndo (mi : MI) : Int32 := if mi 173 4 = 0 then -3 else mi 175 12
set_option maxRecDepth 4000 in
theorem qX7_image (n : Nat) (mi : MI) (mr : MR) (c : CT) (I : INV n mi mr c)  : Ct KX7_image 5 0 0 [.ref 32] n mi mr (imQ mi mr n c) := by
  refine Ct.of2 [some (.ref 32)] (by decide +kernel) (Nat.le_of_ble_eq_true rfl) rfl ?_
  have hcl := I.cl.1
  have hch := I.ch
  obtain ⟨hR, hn, ⟨⟨hN, hN6⟩, ⟨hW, hW5⟩, ⟨hL, hL5⟩, ⟨hT, hT100⟩, ⟨hS, hS5⟩, ⟨hP, hP8⟩, ⟨hBk, hB8⟩⟩, hrw⟩ := I.facts
  have hBD := I.2.2.1
  obtain ⟨⟨r1, r2, r3, r4, r5⟩, hper, hvin, htape, hseen, hnight, hbook⟩ := id hrw
  have hcN : nat (mi 40 1) (cN c) := by rw [r2]; exact hN
  have hcW : nat (mi 40 2) (cW c) := by rw [r3]; exact hW
  clear I
  refine V_aload_n dX7_image_0 rfl ?_
  refine V_getr (b := 70) 7 2 dX7_image_1 (Or.inl lkX7_34) rfl rfl ⟨by omega, by omega⟩ (hR _ _ _ rfl) ?_
  refine V_aload_n dX7_image_4 rfl ?_
  refine V_getr (b := 40) 7 1 dX7_image_5 (Or.inl lkX7_30) rfl rfl ⟨by omega, by omega⟩ (hR _ _ _ rfl) ?_
  refine V_callV (ci := 6) (qX6_become _ _ _ hR hn 70 (Or.inr (Or.inl rfl)) 40 (Or.inl rfl) (by decide) (hvOf (mi 174)) hcl (cN c) (cS c) (cP c) (cB c) hcN hN6 (by rw [hseen.1]; exact hS) hS5 (by rw [hnight.1]; exact hP) hP8 (by rw [hbook.1]; exact hBk) hB8 hch) dX7_image_8 mlX7_227 mtX6_become ivX6_become rfl rfl ⟨by omega, by omega⟩ (by decide) rfl rfl (by decide) (Nat.le_of_ble_eq_true rfl) rfl rfl ?_
  rintro _ _ m1 _ ⟨rfl, rfl, rfl, hk1, hcp, hkn, h17⟩
  have hR := hR.up2 (a := 70) (k := 5) (x := some (hvOf (mi 174))) (RTw5 (Or.inr (Or.inl rfl)))
  refine V_aload_n dX7_image_11 rfl ?_
  refine V_iconst (v := 1) dX7_image_12 rfl ?_
  refine V_puti 7 6 dX7_image_13 (Or.inl lkX7_263) rfl rfl rfl rfl ⟨by omega, by omega⟩ ?_
  refine V_aload_n dX7_image_16 rfl ?_
  refine V_getr (b := 40) 7 1 dX7_image_17 (Or.inl lkX7_30) rfl rfl ⟨by omega, by omega⟩ (hR _ _ _ rfl) ?_
  refine V_geti 6 1 dX7_image_20 lnX7_82 rfl rfl ⟨by omega, by omega⟩ ?_
  refine V_iret dX7_image_23 rfl rfl ?_
  refine ⟨?_, rfl, rfl, m1, rfl, hk1, hcp⟩
  rw [show up2 m1 32 6 1 40 1 = m1 40 1 from (by simp only [up2]; rw [if_neg (by decide)]), hk1 40 (by omega) 1, r2]
set_option maxRecDepth 4000 in
theorem qX7_undo (n : Nat) (mi : MI) (mr : MR) (c : CT) (I : INV n mi mr c)  : Ct KX7_undo 5 0 0 [.ref 32] n mi mr (unQ mi mr n c) := by
  refine Ct.of2 [some (.ref 32)] (by decide +kernel) (Nat.le_of_ble_eq_true rfl) rfl ?_
  have hIM := I.2.2.2.2.2.2.1
  obtain ⟨hR, hn, ⟨⟨hN, hN6⟩, ⟨hW, hW5⟩, ⟨hL, hL5⟩, ⟨hT, hT100⟩, ⟨hS, hS5⟩, ⟨hP, hP8⟩, ⟨hBk, hB8⟩⟩, hrw⟩ := I.facts
  have hBD := I.2.2.1
  obtain ⟨⟨r1, r2, r3, r4, r5⟩, hper, hvin, htape, hseen, hnight, hbook⟩ := id hrw
  have hcN : nat (mi 40 1) (cN c) := by rw [r2]; exact hN
  have hcW : nat (mi 40 2) (cW c) := by rw [r3]; exact hW
  clear I
  refine V_aload_n dX7_undo_0 rfl ?_
  refine V_geti 7 6 dX7_undo_1 (Or.inl lkX7_263) rfl rfl ⟨by omega, by omega⟩ ?_
  refine V_if_ne (tgt := 10) dX7_undo_4 (by decide) (fun c4 => ?_) (fun c4 => ?_)
  · obtain ⟨g1, g2, c2, hB2, hC2, hL2⟩ := hIM.resolve_left (fun h => c4 h.1)
    obtain ⟨⟨s1, s2, s3, s4, s5⟩, -, -, -, hseen2, hnight2, hbook2⟩ := id hC2.1
    refine V_aload_n dX7_undo_10 rfl ?_
    refine V_getr (b := 40) 7 1 dX7_undo_11 (Or.inl lkX7_30) rfl rfl ⟨by omega, by omega⟩ (hR _ _ _ rfl) ?_
    refine V_aload_n dX7_undo_14 rfl ?_
    refine V_getr (b := 70) 7 2 dX7_undo_15 (Or.inl lkX7_34) rfl rfl ⟨by omega, by omega⟩ (hR _ _ _ rfl) ?_
    refine V_callV (ci := 6) (qX6_become _ _ _ hR hn 40 (Or.inl rfl) 70 (Or.inr (Or.inl rfl)) (by decide) (hvOf (mi 175)) hC2.2.1 (cN c2) (cS c2) (cP c2) (cB c2) (by rw [s2]; exact hB2.1.1.1) hB2.1.1.2 (by rw [hseen2.1]; exact hB2.1.2.2.2.2.1.1) hB2.1.2.2.2.2.1.2 (by rw [hnight2.1]; exact hB2.1.2.2.2.2.2.1.1) hB2.1.2.2.2.2.2.1.2 (by rw [hbook2.1]; exact hB2.1.2.2.2.2.2.2.1) hB2.1.2.2.2.2.2.2.2 hC2.2.2.2) dX7_undo_18 mlX7_227 mtX6_become ivX6_become rfl rfl ⟨by omega, by omega⟩ (by decide) rfl rfl (by decide) (Nat.le_of_ble_eq_true rfl) rfl rfl ?_
    rintro _ _ m1 _ ⟨rfl, rfl, rfl, hk1, hcp, hkn, h17⟩
    have hR := hR.up2 (a := 40) (k := 5) (x := some (hvOf (mi 175))) (RTw5 (Or.inl rfl))
    refine V_aload_n dX7_undo_21 rfl ?_
    refine V_getr (b := 40) 7 1 dX7_undo_22 (Or.inl lkX7_30) rfl rfl ⟨by omega, by omega⟩ (hR _ _ _ rfl) ?_
    refine V_geti 6 1 dX7_undo_25 lnX7_82 rfl rfl ⟨by omega, by omega⟩ ?_
    refine V_iret dX7_undo_28 rfl rfl ?_
    refine Or.inr ⟨c4, ?_, rfl, rfl, c2, hB2, hC2, hL2, hk1, hcp, hkn⟩
    rw [hcp.1 1 (by decide), s2]
  · refine V_bipush (v := -3) dX7_undo_7 rfl ?_
    refine V_iret dX7_undo_9 rfl rfl ?_
    exact Or.inl ⟨c4, rfl, rfl, rfl, rfl⟩
set_option maxRecDepth 4000 in
theorem qX8_image (n : Nat) (mi : MI) (mr : MR) (c : CT) (hR : RF mr) (hn : 186 ≤ n) (hBD : BD (mi 174) c)  : Ct KX8_image 3 0 0 [.ref 173] n mi mr (eqQ (some (.int (mi 174 12))) n (mImage mi) mr) := by
  refine Ct.of2 [some (.ref 173), none] (by decide +kernel) (Nat.le_of_ble_eq_true rfl) rfl ?_
  obtain ⟨⟨hN, hN6⟩, ⟨hW, hW5⟩, ⟨hL, hL5⟩, ⟨hT, hT100⟩, ⟨hS, hS5⟩, ⟨hP, hP8⟩, ⟨hBk, hB8⟩⟩ := hBD.1
  refine V_iconst (v := 0) dX8_image_0 rfl ?_
  refine V_istore_n (L' := [_, _]) dX8_image_1 (by decide) rfl rfl ?_
  have loop : ∀ (m i : Nat) (x : Int32), i + m = 938 → x.toInt = (i : Int) → V KX8_image 3 0 0 (eqQ (some (.int (mi 174 12))) n (mImage mi) mr) 2 [some (.ref 173), some (.int x)] [] n (cp2 mi 174 175 i) mr := by
    intro m
    induction m with
    | zero =>
      intro i x him hx
      refine V_iload_n dX8_image_2 rfl ?_
      refine V_sipush (v := 938) dX8_image_3 rfl ?_
      refine V_icmp_ge (tgt := 27) dX8_image_6 (by decide) (fun c6 => ?_) (fun c6 => absurd ((le_nat (x := 938) (a := 938) rfl hx).mpr (by omega)) c6)
      have hi : i = 938 := by omega
      subst hi
      refine V_aload_n dX8_image_27 rfl ?_
      refine V_iconst (v := 1) dX8_image_28 rfl ?_
      refine V_puti 8 4 dX8_image_29 (Or.inl lkX8_307) rfl rfl rfl rfl ⟨by omega, by omega⟩ ?_
      refine V_aload_n dX8_image_32 rfl ?_
      refine V_getr (b := 174) 8 1 dX8_image_33 (Or.inl lkX8_9) rfl rfl ⟨by omega, by omega⟩ (hR _ _ _ rfl) ?_
      refine V_bipush (v := 12) dX8_image_36 rfl ?_
      refine V_iald (len := 938) 12 dX8_image_38 rfl ⟨by omega, by omega⟩ (by decide) (by omega) ?_
      refine V_iret dX8_image_39 rfl rfl ?_
      refine ⟨?_, rfl, rfl, rfl⟩
      rw [show up2 (cp2 mi 174 175 938) 173 4 1 174 12 = mi 174 12 from (by simp [up2, cp2])]
    | succ m ih =>
      intro i x him hx
      refine V_iload_n dX8_image_2 rfl ?_
      refine V_sipush (v := 938) dX8_image_3 rfl ?_
      refine V_icmp_ge (tgt := 27) dX8_image_6 (by decide) (fun c6 => absurd ((le_nat (x := 938) (a := 938) rfl hx).mp c6) (by omega)) (fun c6 => ?_)
      refine V_aload_n dX8_image_9 rfl ?_
      refine V_getr (b := 175) 8 2 dX8_image_10 (Or.inl lkX8_15) rfl rfl ⟨by omega, by omega⟩ (hR _ _ _ rfl) ?_
      refine V_iload_n dX8_image_13 rfl ?_
      refine V_aload_n dX8_image_14 rfl ?_
      refine V_getr (b := 174) 8 1 dX8_image_15 (Or.inl lkX8_9) rfl rfl ⟨by omega, by omega⟩ (hR _ _ _ rfl) ?_
      refine V_iload_n dX8_image_18 rfl ?_
      refine V_iald (len := 938) i dX8_image_19 rfl ⟨by omega, by omega⟩ hx (by omega) ?_
      refine V_iast (len := 938) i dX8_image_20 rfl ⟨by omega, by omega⟩ hx (by omega) ?_
      refine V_iinc (v := _ + (1)) (L' := [_, _]) dX8_image_21 (by decide) rfl rfl rfl rfl ?_
      refine V_goto (tgt := 2) dX8_image_24 (by decide) ?_
      refine V.eq (ih (i + 1) _ (by omega) (ix_add hx (by decide) (by omega))) rfl rfl rfl rfl ?_ rfl
      exact (cp2_step (by decide)).symm
  refine V.eq (loop 938 0 _ (by omega) (by decide)) rfl rfl rfl rfl ?_ rfl
  exact cp2_0
set_option maxRecDepth 4000 in
theorem qX8_undo (n : Nat) (mi : MI) (mr : MR) (c : CT) (hR : RF mr) (hn : 186 ≤ n) (hBD : BD (mi 174) c)  : Ct KX8_undo 3 0 0 [.ref 173] n mi mr (eqQ (some (.int (sUndo mi))) n (mUndo mi) mr) := by
  refine Ct.of2 [some (.ref 173), none] (by decide +kernel) (Nat.le_of_ble_eq_true rfl) rfl ?_
  obtain ⟨⟨hN, hN6⟩, ⟨hW, hW5⟩, ⟨hL, hL5⟩, ⟨hT, hT100⟩, ⟨hS, hS5⟩, ⟨hP, hP8⟩, ⟨hBk, hB8⟩⟩ := hBD.1
  refine V_aload_n dX8_undo_0 rfl ?_
  refine V_geti 8 4 dX8_undo_1 (Or.inl lkX8_307) rfl rfl ⟨by omega, by omega⟩ ?_
  refine V_if_ne (tgt := 10) dX8_undo_4 (by decide) (fun c4 => ?_) (fun c4 => ?_)
  · refine V_iconst (v := 0) dX8_undo_10 rfl ?_
    refine V_istore_n (L' := [_, _]) dX8_undo_11 (by decide) rfl rfl ?_
    have loop : ∀ (m i : Nat) (x : Int32), i + m = 938 → x.toInt = (i : Int) → V KX8_undo 3 0 0 (eqQ (some (.int (sUndo mi))) n (mUndo mi) mr) 12 [some (.ref 173), some (.int x)] [] n (cp2 mi 175 174 i) mr := by
      intro m
      induction m with
      | zero =>
        intro i x him hx
        refine V_iload_n dX8_undo_12 rfl ?_
        refine V_sipush (v := 938) dX8_undo_13 rfl ?_
        refine V_icmp_ge (tgt := 37) dX8_undo_16 (by decide) (fun c16 => ?_) (fun c16 => absurd ((le_nat (x := 938) (a := 938) rfl hx).mpr (by omega)) c16)
        have hi : i = 938 := by omega
        subst hi
        refine V_aload_n dX8_undo_37 rfl ?_
        refine V_getr (b := 174) 8 1 dX8_undo_38 (Or.inl lkX8_9) rfl rfl ⟨by omega, by omega⟩ (hR _ _ _ rfl) ?_
        refine V_bipush (v := 12) dX8_undo_41 rfl ?_
        refine V_iald (len := 938) 12 dX8_undo_43 rfl ⟨by omega, by omega⟩ (by decide) (by omega) ?_
        refine V_iret dX8_undo_44 rfl rfl ?_
        refine ⟨?_, rfl, ?_, rfl⟩
        · unfold sUndo
          rw [if_neg c4, show cp2 mi 175 174 938 174 12 = mi 175 12 from (by simp [cp2])]
        · unfold mUndo
          rw [if_neg c4]
      | succ m ih =>
        intro i x him hx
        refine V_iload_n dX8_undo_12 rfl ?_
        refine V_sipush (v := 938) dX8_undo_13 rfl ?_
        refine V_icmp_ge (tgt := 37) dX8_undo_16 (by decide) (fun c16 => absurd ((le_nat (x := 938) (a := 938) rfl hx).mp c16) (by omega)) (fun c16 => ?_)
        refine V_aload_n dX8_undo_19 rfl ?_
        refine V_getr (b := 174) 8 1 dX8_undo_20 (Or.inl lkX8_9) rfl rfl ⟨by omega, by omega⟩ (hR _ _ _ rfl) ?_
        refine V_iload_n dX8_undo_23 rfl ?_
        refine V_aload_n dX8_undo_24 rfl ?_
        refine V_getr (b := 175) 8 2 dX8_undo_25 (Or.inl lkX8_15) rfl rfl ⟨by omega, by omega⟩ (hR _ _ _ rfl) ?_
        refine V_iload_n dX8_undo_28 rfl ?_
        refine V_iald (len := 938) i dX8_undo_29 rfl ⟨by omega, by omega⟩ hx (by omega) ?_
        refine V_iast (len := 938) i dX8_undo_30 rfl ⟨by omega, by omega⟩ hx (by omega) ?_
        refine V_iinc (v := _ + (1)) (L' := [_, _]) dX8_undo_31 (by decide) rfl rfl rfl rfl ?_
        refine V_goto (tgt := 12) dX8_undo_34 (by decide) ?_
        refine V.eq (ih (i + 1) _ (by omega) (ix_add hx (by decide) (by omega))) rfl rfl rfl rfl ?_ rfl
        exact (cp2_step (by decide)).symm
    refine V.eq (loop 938 0 _ (by omega) (by decide)) rfl rfl rfl rfl ?_ rfl
    exact cp2_0
  · refine V_bipush (v := -3) dX8_undo_7 rfl ?_
    refine V_iret dX8_undo_9 rfl rfl ?_
    refine ⟨?_, rfl, ?_, rfl⟩
    · unfold sUndo
      rw [if_pos c4]
    · unfold mUndo
      rw [if_pos c4]
