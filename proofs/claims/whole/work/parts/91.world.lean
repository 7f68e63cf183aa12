theorem V_some {K : KT} {d cl sl pc n : Nat} {Q : QT} {L : List (Option Value)} {st : List Value} {mi : MI} {mr : MR} (P : MI → MR → Prop) (h : P mi mr) (kk : ∀ (m : MI) (r : MR), P m r → V K d cl sl Q pc L st n m r) : V K d cl sl Q pc L st n mi mr := kk _ _ h
/-- a world as it is made -/
def WI (w : Nat) (m : MI) : Prop := m w 0 = 100 ∧ (m w 1 = 0 ∧ m w 2 = 0 ∧ m w 3 = 0 ∧ m w 4 = 0) ∧ (∀ j, m (w + 4) j = 0) ∧ m (w + 5) 3 = 0 ∧ m (w + 9) 3 = 0 ∧ m (w + 13) 3 = 0
def WP (w : Nat) (m : MI) : Prop := ∀ p, p < 6 → m (w + 18 + 2 * p) 0 = nI p
theorem WI.row {w : Nat} {m m' : MI} (h : WI w m) (e : ∀ a k, w ≤ a → a < w + 18 → a ≠ w + 1 → m' a k = m a k) : WI w m' := by
  obtain ⟨h1, ⟨h2, h3, h4, h5⟩, h6, h7, h8, h9⟩ := h
  refine ⟨?_, ⟨?_, ?_, ?_, ?_⟩, fun j => ?_, ?_, ?_, ?_⟩
  · rw [e _ _ (by omega) (by omega) (by omega)]; exact h1
  · rw [e _ _ (by omega) (by omega) (by omega)]; exact h2
  · rw [e _ _ (by omega) (by omega) (by omega)]; exact h3
  · rw [e _ _ (by omega) (by omega) (by omega)]; exact h4
  · rw [e _ _ (by omega) (by omega) (by omega)]; exact h5
  · rw [e _ _ (by omega) (by omega) (by omega)]; exact h6 j
  · rw [e _ _ (by omega) (by omega) (by omega)]; exact h7
  · rw [e _ _ (by omega) (by omega) (by omega)]; exact h8
  · rw [e _ _ (by omega) (by omega) (by omega)]; exact h9
/-- a world before its people are made -/
def WH (w : Nat) (mi m : MI) (mr r : MR) : Prop := (∀ i, i < w → ∀ k, m i k = mi i k ∧ r i k = mr i k) ∧ (∀ o k b, o < 18 → o ≠ 1 → RT (w + o) k = some b → r (w + o) k = some b) ∧ r w 5 = some 36 ∧ WI w m
set_option maxRecDepth 4000 in
theorem qX6_init (mi : MI) (mr : MR) (w : Nat) (hw : isW w) (hz : ∀ k, mi w k = 0)  : Ct KX6_init 2 29 263 [.ref w, .ref 36] (w + 1) mi mr (fun r n' mi' mr' => none = r ∧ w + 30 = n' ∧ born w (w + 30) mi mi' mr mr' ∧ mr' w 5 = some 36 ∧ WI w mi' ∧ WP w mi') := by
  refine Ct.of2 [some (.ref w), some (.ref 36), none] (by decide +kernel) (Nat.le_of_ble_eq_true rfl) rfl ?_
  have hle := hw.le
  refine V_aload_n dX6_init_0 rfl ?_
  refine V_objInit dX6_init_1 mlX6_3 im_obj cm_obj (by decide) (Nat.le_of_ble_eq_true rfl) ?_
  refine V_aload_n dX6_init_4 rfl ?_
  refine V_bipush (v := 100) dX6_init_5 rfl ?_
  refine V_puti 6 0 dX6_init_7 (Or.inl lkX6_9) rfl rfl rfl (sW hw (o := 0) (by omega)) ⟨by omega, by omega⟩ ?_
  refine V_aload_n dX6_init_10 rfl ?_
  refine V_bipush (v := 6) dX6_init_11 rfl ?_
  refine V_newq (t := 5) (len := 6) (cl' := 28) (sl' := 257) dX6_init_13 (sW hw (o := 1) (by omega)) (Or.inr ⟨rfl, rfl⟩) clX6_15 rfl (by decide) rfl rfl ?_
  refine V_putrF 6 6 dX6_init_16  lkX6_17 rfl ⟨rfl, rfl⟩ (sW hw (o := 0) (by omega)) ⟨by omega, by omega⟩ ?_
  refine V_aload_n dX6_init_19 rfl ?_
  refine V_iconst (v := 5) dX6_init_20 rfl ?_
  refine V_newa (t := 0) (len := 5) (cl' := 27) (sl' := 252) dX6_init_21 (sW hw (o := 2) (by omega)) rfl (by decide) ac_int rfl (by decide) rfl rfl ?_
  refine V_putrF 6 7 dX6_init_23  lkX6_21 rfl ⟨rfl, rfl⟩ (sW hw (o := 0) (by omega)) ⟨by omega, by omega⟩ ?_
  refine V_aload_n dX6_init_26 rfl ?_
  refine V_iconst (v := 5) dX6_init_27 rfl ?_
  refine V_newa (t := 0) (len := 5) (cl' := 26) (sl' := 247) dX6_init_28 (sW hw (o := 3) (by omega)) rfl (by decide) ac_int rfl (by decide) rfl rfl ?_
  refine V_putrF 6 8 dX6_init_30  lkX6_25 rfl ⟨rfl, rfl⟩ (sW hw (o := 0) (by omega)) ⟨by omega, by omega⟩ ?_
  refine V_aload_n dX6_init_33 rfl ?_
  refine V_bipush (v := 100) dX6_init_34 rfl ?_
  refine V_newa (t := 1) (len := 100) (cl' := 25) (sl' := 147) dX6_init_36 (sW hw (o := 4) (by omega)) rfl (by decide) ac_char rfl (by decide) rfl rfl ?_
  refine V_putrF 6 9 dX6_init_38  lkX6_28 rfl ⟨rfl, rfl⟩ (sW hw (o := 0) (by omega)) ⟨by omega, by omega⟩ ?_
  refine V_aload_n dX6_init_41 rfl ?_
  refine V_new (ci := 3) (cl' := 24) (sl' := 143) dX6_init_42 (sW hw (o := 5) (by omega)) (by decide) clX6_32 insX3 iniX3 rfl rfl ?_
  refine V_dup dX6_init_45 rfl ?_
  refine V_iconst (v := 5) dX6_init_46 rfl ?_
  refine V_callI (cl' := 21) (sl' := 128) (qX3_init _ _ (w + 5) 5 (Or.inl ⟨w, hw, rfl, rfl⟩) _ rfl) dX6_init_47 mlX6_34 mtX3_init imX3_init ⟨rfl, rfl⟩ rfl rfl (by decide) (Nat.le_of_ble_eq_true rfl) rfl rfl ?_
  rintro _ _ m1 r1 ⟨rfl, rfl, ⟨b1, b1'⟩, s1⟩
  refine V_putrF 6 10 dX6_init_50  lkX6_37 rfl ⟨rfl, rfl⟩ (sW hw (o := 0) (by omega)) ⟨by omega, by omega⟩ ?_
  refine V_aload_n dX6_init_53 rfl ?_
  refine V_new (ci := 3) (cl' := 20) (sl' := 124) dX6_init_54 (sW hw (o := 9) (by omega)) (by decide) clX6_32 insX3 iniX3 rfl rfl ?_
  refine V_dup dX6_init_57 rfl ?_
  refine V_bipush (v := 8) dX6_init_58 rfl ?_
  refine V_callI (cl' := 17) (sl' := 100) (qX3_init _ _ (w + 9) 8 (Or.inr (Or.inl ⟨w, hw, rfl, rfl⟩)) _ rfl) dX6_init_60 mlX6_34 mtX3_init imX3_init ⟨rfl, rfl⟩ rfl rfl (by decide) (Nat.le_of_ble_eq_true rfl) rfl rfl ?_
  rintro _ _ m2 r2 ⟨rfl, rfl, ⟨b2, b2'⟩, s2⟩
  refine V_putrF 6 11 dX6_init_63  lkX6_41 rfl ⟨rfl, rfl⟩ (sW hw (o := 0) (by omega)) ⟨by omega, by omega⟩ ?_
  refine V_aload_n dX6_init_66 rfl ?_
  refine V_new (ci := 3) (cl' := 16) (sl' := 96) dX6_init_67 (sW hw (o := 13) (by omega)) (by decide) clX6_32 insX3 iniX3 rfl rfl ?_
  refine V_dup dX6_init_70 rfl ?_
  refine V_bipush (v := 8) dX6_init_71 rfl ?_
  refine V_callI (cl' := 13) (sl' := 72) (qX3_init _ _ (w + 13) 8 (Or.inr (Or.inr ⟨w, hw, rfl, rfl⟩)) _ rfl) dX6_init_73 mlX6_34 mtX3_init imX3_init ⟨rfl, rfl⟩ rfl rfl (by decide) (Nat.le_of_ble_eq_true rfl) rfl rfl ?_
  rintro _ _ m3 r3 ⟨rfl, rfl, ⟨b3, b3'⟩, s3⟩
  refine V_putrF 6 12 dX6_init_76  lkX6_44 rfl ⟨rfl, rfl⟩ (sW hw (o := 0) (by omega)) ⟨by omega, by omega⟩ ?_
  refine V_aload_n dX6_init_79 rfl ?_
  refine V_bipush (v := 6) dX6_init_80 rfl ?_
  refine V_newa (t := 0) (len := 6) (cl' := 12) (sl' := 66) dX6_init_82 (sW hw (o := 17) (by omega)) rfl (by decide) ac_int rfl (by decide) rfl rfl ?_
  refine V_putrF 6 13 dX6_init_84  lkX6_49 rfl ⟨rfl, rfl⟩ (sW hw (o := 0) (by omega)) ⟨by omega, by omega⟩ ?_
  refine V_aload_n dX6_init_87 rfl ?_
  refine V_aload_n dX6_init_88 rfl ?_
  refine V_putr 6 5 dX6_init_89 (Or.inl lkX6_52) rfl (sW hw (o := 0) (by omega)) ⟨by omega, by omega⟩ ?_
  refine V_iconst (v := 0) dX6_init_92 rfl ?_
  refine V_istore_n (L' := [_, _, _]) dX6_init_93 (by decide) rfl rfl ?_
  refine V_some (WH w mi · mr ·) ?_ (fun m0 r0 hP => ?_)
  · refine ⟨fun i hi k => ⟨by (repeat first | rw [up2_n (by omega)] | rw [mi0_n (by omega)] | rw [mr0_n (by omega)] | rw [(b3 _ (by omega) _).1] | rw [(b3 _ (by omega) _).2] | rw [(b2 _ (by omega) _).1] | rw [(b2 _ (by omega) _).2] | rw [(b1 _ (by omega) _).1] | rw [(b1 _ (by omega) _).2]), by (repeat first | rw [up2_n (by omega)] | rw [mi0_n (by omega)] | rw [mr0_n (by omega)] | rw [(b3 _ (by omega) _).1] | rw [(b3 _ (by omega) _).2] | rw [(b2 _ (by omega) _).1] | rw [(b2 _ (by omega) _).2] | rw [(b1 _ (by omega) _).1] | rw [(b1 _ (by omega) _).2])⟩, fun o k b ho ho1 hb => ?_, ?_, ?_⟩
    · have hb2 := hb
      rw [RT_W hw (by omega)] at hb2
      rcases RTW_v hb2 with ⟨rfl, h⟩ | ⟨h, -⟩ | ⟨rfl, h3, -⟩ | ⟨rfl, h3, -⟩ | ⟨rfl, h3, -⟩ | ⟨h3, -⟩
      · rcases h with ⟨rfl, rfl⟩ | ⟨rfl, rfl⟩ | ⟨rfl, rfl⟩ | ⟨rfl, rfl⟩ | ⟨rfl, rfl⟩ | ⟨rfl, rfl⟩ | ⟨rfl, rfl⟩ | ⟨rfl, rfl⟩
        all_goals ((repeat first | rw [up2_n (by omega)] | rw [mi0_n (by omega)] | rw [mr0_n (by omega)] | rw [(b3 _ (by omega) _).1] | rw [(b3 _ (by omega) _).2] | rw [(b2 _ (by omega) _).1] | rw [(b2 _ (by omega) _).2] | rw [(b1 _ (by omega) _).1] | rw [(b1 _ (by omega) _).2]); exact up2_h rfl rfl)
      · exact absurd h ho1
      · (repeat first | rw [up2_n (by omega)] | rw [mi0_n (by omega)] | rw [mr0_n (by omega)] | rw [(b3 _ (by omega) _).1] | rw [(b3 _ (by omega) _).2] | rw [(b2 _ (by omega) _).1] | rw [(b2 _ (by omega) _).2] | rw [(b1 _ (by omega) _).1] | rw [(b1 _ (by omega) _).2])
        exact b1' _ _ _ (by omega) (by omega) hb
      · (repeat first | rw [up2_n (by omega)] | rw [mi0_n (by omega)] | rw [mr0_n (by omega)] | rw [(b3 _ (by omega) _).1] | rw [(b3 _ (by omega) _).2] | rw [(b2 _ (by omega) _).1] | rw [(b2 _ (by omega) _).2] | rw [(b1 _ (by omega) _).1] | rw [(b1 _ (by omega) _).2])
        exact b2' _ _ _ (by omega) (by omega) hb
      · (repeat first | rw [up2_n (by omega)] | rw [mi0_n (by omega)] | rw [mr0_n (by omega)] | rw [(b3 _ (by omega) _).1] | rw [(b3 _ (by omega) _).2] | rw [(b2 _ (by omega) _).1] | rw [(b2 _ (by omega) _).2] | rw [(b1 _ (by omega) _).1] | rw [(b1 _ (by omega) _).2])
        exact b3' _ _ _ (by omega) (by omega) hb
      · exact absurd h3 (by omega)
    · (repeat first | rw [up2_n (by omega)] | rw [mi0_n (by omega)] | rw [mr0_n (by omega)] | rw [(b3 _ (by omega) _).1] | rw [(b3 _ (by omega) _).2] | rw [(b2 _ (by omega) _).1] | rw [(b2 _ (by omega) _).2] | rw [(b1 _ (by omega) _).1] | rw [(b1 _ (by omega) _).2])
      exact up2_h rfl rfl
    · refine ⟨?_, ⟨?_, ?_, ?_, ?_⟩, fun j => ?_, ?_, ?_, ?_⟩
      · (repeat first | rw [up2_n (by omega)] | rw [mi0_n (by omega)] | rw [mr0_n (by omega)] | rw [(b3 _ (by omega) _).1] | rw [(b3 _ (by omega) _).2] | rw [(b2 _ (by omega) _).1] | rw [(b2 _ (by omega) _).2] | rw [(b1 _ (by omega) _).1] | rw [(b1 _ (by omega) _).2]); exact up2_h rfl rfl
      · (repeat first | rw [up2_n (by omega)] | rw [mi0_n (by omega)] | rw [mr0_n (by omega)] | rw [(b3 _ (by omega) _).1] | rw [(b3 _ (by omega) _).2] | rw [(b2 _ (by omega) _).1] | rw [(b2 _ (by omega) _).2] | rw [(b1 _ (by omega) _).1] | rw [(b1 _ (by omega) _).2]); exact hz 1
      · (repeat first | rw [up2_n (by omega)] | rw [mi0_n (by omega)] | rw [mr0_n (by omega)] | rw [(b3 _ (by omega) _).1] | rw [(b3 _ (by omega) _).2] | rw [(b2 _ (by omega) _).1] | rw [(b2 _ (by omega) _).2] | rw [(b1 _ (by omega) _).1] | rw [(b1 _ (by omega) _).2]); exact hz 2
      · (repeat first | rw [up2_n (by omega)] | rw [mi0_n (by omega)] | rw [mr0_n (by omega)] | rw [(b3 _ (by omega) _).1] | rw [(b3 _ (by omega) _).2] | rw [(b2 _ (by omega) _).1] | rw [(b2 _ (by omega) _).2] | rw [(b1 _ (by omega) _).1] | rw [(b1 _ (by omega) _).2]); exact hz 3
      · (repeat first | rw [up2_n (by omega)] | rw [mi0_n (by omega)] | rw [mr0_n (by omega)] | rw [(b3 _ (by omega) _).1] | rw [(b3 _ (by omega) _).2] | rw [(b2 _ (by omega) _).1] | rw [(b2 _ (by omega) _).2] | rw [(b1 _ (by omega) _).1] | rw [(b1 _ (by omega) _).2]); exact hz 4
      · (repeat first | rw [up2_n (by omega)] | rw [mi0_n (by omega)] | rw [mr0_n (by omega)] | rw [(b3 _ (by omega) _).1] | rw [(b3 _ (by omega) _).2] | rw [(b2 _ (by omega) _).1] | rw [(b2 _ (by omega) _).2] | rw [(b1 _ (by omega) _).1] | rw [(b1 _ (by omega) _).2]); exact mi0_s
      · (repeat first | rw [up2_n (by omega)] | rw [mi0_n (by omega)] | rw [mr0_n (by omega)] | rw [(b3 _ (by omega) _).1] | rw [(b3 _ (by omega) _).2] | rw [(b2 _ (by omega) _).1] | rw [(b2 _ (by omega) _).2] | rw [(b1 _ (by omega) _).1] | rw [(b1 _ (by omega) _).2]); rw [s1]; (repeat first | rw [up2_n (by omega)] | rw [mi0_n (by omega)] | rw [mr0_n (by omega)] | rw [(b3 _ (by omega) _).1] | rw [(b3 _ (by omega) _).2] | rw [(b2 _ (by omega) _).1] | rw [(b2 _ (by omega) _).2] | rw [(b1 _ (by omega) _).1] | rw [(b1 _ (by omega) _).2]); exact mi0_s
      · (repeat first | rw [up2_n (by omega)] | rw [mi0_n (by omega)] | rw [mr0_n (by omega)] | rw [(b3 _ (by omega) _).1] | rw [(b3 _ (by omega) _).2] | rw [(b2 _ (by omega) _).1] | rw [(b2 _ (by omega) _).2] | rw [(b1 _ (by omega) _).1] | rw [(b1 _ (by omega) _).2]); rw [s2]; (repeat first | rw [up2_n (by omega)] | rw [mi0_n (by omega)] | rw [mr0_n (by omega)] | rw [(b3 _ (by omega) _).1] | rw [(b3 _ (by omega) _).2] | rw [(b2 _ (by omega) _).1] | rw [(b2 _ (by omega) _).2] | rw [(b1 _ (by omega) _).1] | rw [(b1 _ (by omega) _).2]); exact mi0_s
      · (repeat first | rw [up2_n (by omega)] | rw [mi0_n (by omega)] | rw [mr0_n (by omega)] | rw [(b3 _ (by omega) _).1] | rw [(b3 _ (by omega) _).2] | rw [(b2 _ (by omega) _).1] | rw [(b2 _ (by omega) _).2] | rw [(b1 _ (by omega) _).1] | rw [(b1 _ (by omega) _).2]); rw [s3]; (repeat first | rw [up2_n (by omega)] | rw [mi0_n (by omega)] | rw [mr0_n (by omega)] | rw [(b3 _ (by omega) _).1] | rw [(b3 _ (by omega) _).2] | rw [(b2 _ (by omega) _).1] | rw [(b2 _ (by omega) _).2] | rw [(b1 _ (by omega) _).1] | rw [(b1 _ (by omega) _).2]); exact mi0_s
  clear b1 b2 b3 b1' b2' b3' s1 s2 s3
  obtain ⟨g1, g2, g3, g4⟩ := hP
  have hr6 : r0 w 6 = some (w + 1) := g2 0 6 (w + 1) (by omega) (by omega) (by rw [RT_W hw (by omega)]; rfl)
  have loop : ∀ (m i : Nat) (x : Int32) (mj : MI) (rj : MR), i + m = 6 → x.toInt = (i : Int) → (∀ a k, a < w + 18 → a ≠ w + 1 → mj a k = m0 a k ∧ rj a k = r0 a k) → (∀ p, p < i → rj (w + 1) p = some (w + 18 + 2 * p) ∧ rj (w + 18 + 2 * p) 6 = some (w + 18 + 2 * p + 1) ∧ mj (w + 18 + 2 * p) 0 = nI p) → V KX6_init 2 (2 * m) (11 * m) (fun r n' mi' mr' => none = r ∧ w + 30 = n' ∧ born w (w + 30) mi mi' mr mr' ∧ mr' w 5 = some 36 ∧ WI w mi' ∧ WP w mi') 94 [some (.ref w), some (.ref 36), some (.int x)] [] (w + 18 + 2 * i) mj rj := by
    intro m
    induction m with
    | zero =>
      intro i x mj rj him hx hlo hpe
      refine V_iload_n dX6_init_94 rfl ?_
      refine V_bipush (v := 6) dX6_init_95 rfl ?_
      refine V_icmp_ge (tgt := 120) dX6_init_97 (by decide) (fun c97 => ?_) (fun c97 => absurd ((le_nat (x := 6) (a := 6) rfl hx).mpr (by omega)) c97)
      refine V_ret dX6_init_120 rfl ?_
      have hi : i = 6 := by omega
      subst hi
      refine ⟨rfl, rfl, ⟨fun a ha k => ⟨(hlo a k (by omega) (by omega)).1.trans (g1 a ha k).1, (hlo a k (by omega) (by omega)).2.trans (g1 a ha k).2⟩, fun a k b h1 h2 hb => ?_⟩, ?_, g4.row (fun a k h1 h2 h3 => (hlo a k (by omega) (by omega)).1), fun p hp => (hpe p hp).2.2⟩
      · obtain ⟨o, rfl⟩ : ∃ o, a = w + o := ⟨a - w, by omega⟩
        by_cases e1 : o < 18 ∧ o ≠ 1
        · exact (hlo _ k (by omega) (by omega)).2.trans (g2 o k b e1.1 e1.2 hb)
        · rw [RT_W hw (by omega)] at hb
          rcases RTW_v hb with ⟨rfl, h⟩ | ⟨rfl, h3, rfl⟩ | ⟨rfl, h3, -⟩ | ⟨rfl, h3, -⟩ | ⟨rfl, h3, -⟩ | ⟨h3, h4, rfl, rfl⟩
          · exact absurd (And.intro (by omega) (by omega)) e1
          · exact (hpe k h3).1
          · exact absurd (And.intro (by omega) (by omega)) e1
          · exact absurd (And.intro (by omega) (by omega)) e1
          · exact absurd (And.intro (by omega) (by omega)) e1
          · have h5 := (hpe ((o - 18) / 2) (by omega)).2.1
            rw [show w + 18 + 2 * ((o - 18) / 2) = w + o by omega] at h5
            exact h5
      · exact (hlo w 5 (by omega) (by omega)).2.trans g3
    | succ m ih =>
      intro i x mj rj him hx hlo hpe
      refine V_iload_n dX6_init_94 rfl ?_
      refine V_bipush (v := 6) dX6_init_95 rfl ?_
      refine V_icmp_ge (tgt := 120) dX6_init_97 (by decide) (fun c97 => absurd ((le_nat (x := 6) (a := 6) rfl hx).mp c97) (by omega)) (fun c97 => ?_)
      refine V_aload_n dX6_init_100 rfl ?_
      refine V_getr (b := (w + 1)) 6 6 dX6_init_101 (Or.inl lkX6_17) rfl (sW hw (o := 0) (by omega)) ⟨by omega, by omega⟩ ((hlo w 6 (by omega) (by omega)).2.trans hr6) ?_
      refine V_iload_n dX6_init_104 rfl ?_
      refine V_new (ci := 1) (cl' := (2 * m + 1)) (sl' := (11 * m + 4)) dX6_init_105 (sP (pOf hw (by omega))) (by decide) clX6_15 insX1 iniX1 (by omega) (by show _ = _ + 7; omega) ?_
      refine V_dup dX6_init_108 rfl ?_
      refine V_iload_n dX6_init_109 rfl ?_
      refine V_callI (cl' := (2 * m)) (sl' := (11 * m)) (qX1_init _ _ (w + 18 + 2 * i) (pOf hw (by omega)) x) dX6_init_110 mlX6_56 mtX1_init imX1_init ⟨rfl, rfl⟩ rfl rfl (by decide) (Nat.le_of_ble_eq_true rfl) (by omega) (by omega) ?_
      rintro _ _ mk rk ⟨rfl, rfl, ⟨c1, c1'⟩, c2⟩
      refine V_aast (len := 6) 5 i dX6_init_113 (sW hw (o := 1) (by omega)) (by decide) ⟨by omega, by omega⟩ (sP (pOf hw (by omega))) ⟨by omega, by omega⟩ hx (by omega) ?_
      refine V_iinc (v := _ + (1)) (L' := [_, _, _]) dX6_init_114 (by decide) rfl rfl rfl rfl ?_
      refine V_goto (tgt := 94) dX6_init_117 (by decide) ?_
      refine V.eq (ih (i + 1) _ _ _ (by omega) (ix_add hx (by decide) (by omega)) (fun a k h1 h2 => ?_) (fun p hp => ?_)) rfl rfl rfl (by omega) rfl rfl
      · refine ⟨?_, ?_⟩
        · (repeat first | rw [up2_n (by omega)] | rw [mi0_n (by omega)] | rw [mr0_n (by omega)] | rw [(c1 _ (by omega) _).1] | rw [(c1 _ (by omega) _).2])
          exact (hlo a k h1 h2).1
        · (repeat first | rw [up2_n (by omega)] | rw [mi0_n (by omega)] | rw [mr0_n (by omega)] | rw [(c1 _ (by omega) _).1] | rw [(c1 _ (by omega) _).2])
          exact (hlo a k h1 h2).2
      · by_cases e : p = i
        · rw [e]
          refine ⟨up2_h rfl rfl, ?_, ?_⟩
          · rw [up2_n (by omega)]
            exact c1' _ _ _ (by omega) (by omega) (rP (pOf hw (by omega)))
          · rw [c2, nI_of_toInt hx]
        · obtain ⟨p1, p2, p3⟩ := hpe p (by omega)
          refine ⟨?_, ?_, ?_⟩
          · (repeat first | rw [up2_n (by omega)] | rw [mi0_n (by omega)] | rw [mr0_n (by omega)] | rw [(c1 _ (by omega) _).1] | rw [(c1 _ (by omega) _).2])
            exact p1
          · (repeat first | rw [up2_n (by omega)] | rw [mi0_n (by omega)] | rw [mr0_n (by omega)] | rw [(c1 _ (by omega) _).1] | rw [(c1 _ (by omega) _).2])
            exact p2
          · (repeat first | rw [up2_n (by omega)] | rw [mi0_n (by omega)] | rw [mr0_n (by omega)] | rw [(c1 _ (by omega) _).1] | rw [(c1 _ (by omega) _).2])
            exact p3
  refine V.eq (loop 6 0 _ _ _ (by omega) (by decide) (fun a k _ _ => ⟨rfl, rfl⟩) (fun p hp => absurd hp (by omega))) rfl rfl rfl rfl rfl rfl
