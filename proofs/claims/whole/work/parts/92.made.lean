/-- the program before its villages are made, and after -/
def HI7 (m : MI) (r : MR) : Prop := r 40 5 = some 36 ∧ WI 40 m ∧ WP 40 m ∧ m 32 6 = 0 ∧ m 34 1 = 0 ∧ m 36 0 = 18 ∧ m 36 1 = 60 ∧ m 36 2 = 0
def H7 (mi m : MI) (mr r : MR) : Prop := (∀ i, i < 32 → ∀ k, m i k = mi i k ∧ r i k = mr i k) ∧ (∀ i k b, 32 ≤ i → i < 153 → i ≠ 33 → RT i k = some b → r i k = some b) ∧ HI7 m r
theorem HI7.row {m m' : MI} {r r' : MR} (h : HI7 m r) (e : ∀ a k, a < 153 → a ≠ 33 → m' a k = m a k ∧ r' a k = r a k) : HI7 m' r' := by
  obtain ⟨h1, h2, h3, h4, h5, h6, h7, h8⟩ := h
  refine ⟨?_, h2.row (fun a k _ _ _ => (e a k (by omega) (by omega)).1), fun p hp => ?_, ?_, ?_, ?_, ?_, ?_⟩
  · rw [(e _ _ (by omega) (by omega)).2]; exact h1
  · rw [(e _ _ (by omega) (by omega)).1]; exact h3 p hp
  · rw [(e _ _ (by omega) (by omega)).1]; exact h4
  · rw [(e _ _ (by omega) (by omega)).1]; exact h5
  · rw [(e _ _ (by omega) (by omega)).1]; exact h6
  · rw [(e _ _ (by omega) (by omega)).1]; exact h7
  · rw [(e _ _ (by omega) (by omega)).1]; exact h8
set_option maxRecDepth 4000 in
theorem qX7_init (mi : MI) (mr : MR) (hz : mi 32 6 = 0)  : Ct KX7_init 4 140 1771 [.ref 32] 33 mi mr (fun r n' mi' mr' => none = r ∧ 173 = n' ∧ born 32 173 mi mi' mr mr' ∧ HI7 mi' mr') := by
  refine Ct.of2 [some (.ref 32), none, none] (by decide +kernel) (Nat.le_of_ble_eq_true rfl) rfl ?_
  refine V_aload_n dX7_init_0 rfl ?_
  refine V_objInit dX7_init_1 mlX7_3 im_obj cm_obj (by decide) (Nat.le_of_ble_eq_true rfl) ?_
  refine V_aload_n dX7_init_4 rfl ?_
  refine V_iconst (v := 5) dX7_init_5 rfl ?_
  refine V_newq (t := 4) (len := 5) (cl' := 139) (sl' := 1766) dX7_init_6 rfl (Or.inl ⟨rfl, rfl⟩) clX7_11 rfl (by decide) rfl rfl ?_
  refine V_putrF 7 0 dX7_init_9  lkX7_13 rfl ⟨rfl, rfl⟩ rfl ⟨by omega, by omega⟩ ?_
  refine V_aload_n dX7_init_12 rfl ?_
  refine V_new (ci := 0) (cl' := 138) (sl' := 1764) dX7_init_13 rfl (by decide) clX7_17 insX0 iniX0 rfl rfl ?_
  refine V_dup dX7_init_16 rfl ?_
  refine V_callIN (cl' := 137) (sl' := 1744) (qX0_init _ _) dX7_init_17 mnX7_19 mtX0_init imX0_init ⟨rfl, rfl⟩ rfl rfl (by decide) (Nat.le_of_ble_eq_true rfl) rfl rfl ?_
  rintro _ _ m1 r1 ⟨rfl, rfl, ⟨a1, a1'⟩, a2⟩
  refine V_putrF 7 5 dX7_init_20  lkX7_20 rfl ⟨rfl, rfl⟩ rfl ⟨by omega, by omega⟩ ?_
  refine V_new (ci := 5) (cl' := 136) (sl' := 1737) dX7_init_23 rfl (by decide) clX7_11 insX5 iniX5 rfl rfl ?_
  refine V_dup dX7_init_26 rfl ?_
  refine V_callI (cl' := 133) (sl' := 1617) (qX5_init _ _ 36 (Or.inl rfl)) dX7_init_27 mlX7_24 mtX5_init imX5_init ⟨rfl, rfl⟩ rfl rfl (by decide) (Nat.le_of_ble_eq_true rfl) rfl rfl ?_
  rintro _ _ m2 r2 ⟨rfl, rfl, ⟨bV, bV'⟩, v1, v2, v3⟩
  refine V_astore_n (L' := [_, _, _]) dX7_init_30 (by decide) rfl rfl ?_
  refine V_aload_n dX7_init_31 rfl ?_
  refine V_new (ci := 6) (cl' := 132) (sl' := 1603) dX7_init_32 rfl (by decide) clX7_25 insX6 iniX6 rfl rfl ?_
  refine V_dup dX7_init_35 rfl ?_
  refine V_aload_n dX7_init_36 rfl ?_
  refine V_callI (cl' := 103) (sl' := 1340) (qX6_init _ _ 40 (Or.inl rfl) (fun k => mi0_s)) dX7_init_37 mlX7_27 mtX6_init imX6_init ⟨rfl, rfl⟩ rfl rfl (by decide) (Nat.le_of_ble_eq_true rfl) rfl rfl ?_
  rintro _ _ m3 r3 ⟨rfl, rfl, ⟨w1, w1'⟩, x1, y1, z1⟩
  refine V_putrF 7 1 dX7_init_40  lkX7_30 rfl ⟨rfl, rfl⟩ rfl ⟨by omega, by omega⟩ ?_
  refine V_aload_n dX7_init_43 rfl ?_
  refine V_new (ci := 6) (cl' := 102) (sl' := 1326) dX7_init_44 rfl (by decide) clX7_25 insX6 iniX6 rfl rfl ?_
  refine V_dup dX7_init_47 rfl ?_
  refine V_aload_n dX7_init_48 rfl ?_
  refine V_callI (cl' := 73) (sl' := 1063) (qX6_init _ _ 70 (Or.inr (Or.inl rfl)) (fun k => mi0_s)) dX7_init_49 mlX7_27 mtX6_init imX6_init ⟨rfl, rfl⟩ rfl rfl (by decide) (Nat.le_of_ble_eq_true rfl) rfl rfl ?_
  rintro _ _ m4 r4 ⟨rfl, rfl, ⟨w2, w2'⟩, -, -, -⟩
  refine V_putrF 7 2 dX7_init_52  lkX7_34 rfl ⟨rfl, rfl⟩ rfl ⟨by omega, by omega⟩ ?_
  refine V_aload_n dX7_init_55 rfl ?_
  refine V_new (ci := 6) (cl' := 72) (sl' := 1049) dX7_init_56 rfl (by decide) clX7_25 insX6 iniX6 rfl rfl ?_
  refine V_dup dX7_init_59 rfl ?_
  refine V_aload_n dX7_init_60 rfl ?_
  refine V_callI (cl' := 43) (sl' := 786) (qX6_init _ _ 100 (Or.inr (Or.inr rfl)) (fun k => mi0_s)) dX7_init_61 mlX7_27 mtX6_init imX6_init ⟨rfl, rfl⟩ rfl rfl (by decide) (Nat.le_of_ble_eq_true rfl) rfl rfl ?_
  rintro _ _ m5 r5 ⟨rfl, rfl, ⟨w3, w3'⟩, -, -, -⟩
  refine V_putrF 7 3 dX7_init_64  lkX7_37 rfl ⟨rfl, rfl⟩ rfl ⟨by omega, by omega⟩ ?_
  refine V_aload_n dX7_init_67 rfl ?_
  refine V_new (ci := 4) (cl' := 42) (sl' := 771) dX7_init_68 rfl (by decide) clX7_40 insX4 iniX4 rfl rfl ?_
  refine V_dup dX7_init_71 rfl ?_
  refine V_aload_n dX7_init_72 rfl ?_
  refine V_getr (b := 40) 7 1 dX7_init_73 (Or.inl lkX7_30) rfl rfl ⟨by omega, by omega⟩ (by (repeat first | rw [up2_n (by omega)] | rw [mi0_n (by omega)] | rw [mr0_n (by omega)]  | rw [(w3 _ (by omega) _).1] | rw [(w3 _ (by omega) _).2] | rw [(w2 _ (by omega) _).1] | rw [(w2 _ (by omega) _).2] | rw [(w1 _ (by omega) _).1] | rw [(w1 _ (by omega) _).2] | rw [(bV _ (by omega) _).1] | rw [(bV _ (by omega) _).2] | rw [(a1 _ (by omega) _).1] | rw [(a1 _ (by omega) _).2]); exact up2_h rfl rfl) ?_
  refine V_callI (cl' := 20) (sl' := 635) (qX4_init _ _) dX7_init_76 mlX7_42 mtX4_init imX4_init ⟨rfl, rfl⟩ rfl rfl (by decide) (Nat.le_of_ble_eq_true rfl) rfl rfl ?_
  rintro _ _ m6 r6 ⟨rfl, rfl, ⟨sS, sS'⟩⟩
  refine V_putrF 7 4 dX7_init_79  lkX7_45 rfl ⟨rfl, rfl⟩ rfl ⟨by omega, by omega⟩ ?_
  refine V_iconst (v := 0) dX7_init_82 rfl ?_
  refine V_istore_n (L' := [_, _, _]) dX7_init_83 (by decide) rfl rfl ?_
  refine V_some (H7 mi · mr ·) ?_ (fun m0 r0 hP => ?_)
  · refine ⟨fun i hi k => ⟨by (repeat first | rw [up2_n (by omega)] | rw [mi0_n (by omega)] | rw [mr0_n (by omega)] | rw [(sS _ (by omega) _).1] | rw [(sS _ (by omega) _).2] | rw [(w3 _ (by omega) _).1] | rw [(w3 _ (by omega) _).2] | rw [(w2 _ (by omega) _).1] | rw [(w2 _ (by omega) _).2] | rw [(w1 _ (by omega) _).1] | rw [(w1 _ (by omega) _).2] | rw [(bV _ (by omega) _).1] | rw [(bV _ (by omega) _).2] | rw [(a1 _ (by omega) _).1] | rw [(a1 _ (by omega) _).2]), by (repeat first | rw [up2_n (by omega)] | rw [mi0_n (by omega)] | rw [mr0_n (by omega)] | rw [(sS _ (by omega) _).1] | rw [(sS _ (by omega) _).2] | rw [(w3 _ (by omega) _).1] | rw [(w3 _ (by omega) _).2] | rw [(w2 _ (by omega) _).1] | rw [(w2 _ (by omega) _).2] | rw [(w1 _ (by omega) _).1] | rw [(w1 _ (by omega) _).2] | rw [(bV _ (by omega) _).1] | rw [(bV _ (by omega) _).2] | rw [(a1 _ (by omega) _).1] | rw [(a1 _ (by omega) _).2])⟩, fun i k b h1 h2 h3 hb => ?_, ?_, ?_, ?_, ?_, ?_, ?_, ?_, ?_⟩
    · by_cases e1 : i < 36
      · by_cases e2 : i = 32
        · subst e2
          have hv := RTB_v (show RTB 32 k = some b from hb)
          have hv2 : (k = 0 ∧ 33 = b) ∨ (k = 1 ∧ 40 = b) ∨ (k = 2 ∧ 70 = b) ∨ (k = 3 ∧ 100 = b) ∨ (k = 4 ∧ 130 = b) ∨ (k = 5 ∧ 34 = b) := by omega
          rcases hv2 with ⟨rfl, rfl⟩ | ⟨rfl, rfl⟩ | ⟨rfl, rfl⟩ | ⟨rfl, rfl⟩ | ⟨rfl, rfl⟩ | ⟨rfl, rfl⟩
          all_goals ((repeat first | rw [up2_n (by omega)] | rw [mi0_n (by omega)] | rw [mr0_n (by omega)] | rw [(sS _ (by omega) _).1] | rw [(sS _ (by omega) _).2] | rw [(w3 _ (by omega) _).1] | rw [(w3 _ (by omega) _).2] | rw [(w2 _ (by omega) _).1] | rw [(w2 _ (by omega) _).2] | rw [(w1 _ (by omega) _).1] | rw [(w1 _ (by omega) _).2] | rw [(bV _ (by omega) _).1] | rw [(bV _ (by omega) _).2] | rw [(a1 _ (by omega) _).1] | rw [(a1 _ (by omega) _).2]); exact up2_h rfl rfl)
        · (repeat first | rw [up2_n (by omega)] | rw [mi0_n (by omega)] | rw [mr0_n (by omega)] | rw [(sS _ (by omega) _).1] | rw [(sS _ (by omega) _).2] | rw [(w3 _ (by omega) _).1] | rw [(w3 _ (by omega) _).2] | rw [(w2 _ (by omega) _).1] | rw [(w2 _ (by omega) _).2] | rw [(w1 _ (by omega) _).1] | rw [(w1 _ (by omega) _).2] | rw [(bV _ (by omega) _).1] | rw [(bV _ (by omega) _).2] | rw [(a1 _ (by omega) _).1] | rw [(a1 _ (by omega) _).2])
          exact a1' _ _ _ (by omega) (by omega) hb
      · by_cases e2 : i < 40
        · (repeat first | rw [up2_n (by omega)] | rw [mi0_n (by omega)] | rw [mr0_n (by omega)] | rw [(sS _ (by omega) _).1] | rw [(sS _ (by omega) _).2] | rw [(w3 _ (by omega) _).1] | rw [(w3 _ (by omega) _).2] | rw [(w2 _ (by omega) _).1] | rw [(w2 _ (by omega) _).2] | rw [(w1 _ (by omega) _).1] | rw [(w1 _ (by omega) _).2] | rw [(bV _ (by omega) _).1] | rw [(bV _ (by omega) _).2] | rw [(a1 _ (by omega) _).1] | rw [(a1 _ (by omega) _).2])
          exact bV' _ _ _ (by omega) (by omega) hb
        · by_cases e3 : i < 70
          · (repeat first | rw [up2_n (by omega)] | rw [mi0_n (by omega)] | rw [mr0_n (by omega)] | rw [(sS _ (by omega) _).1] | rw [(sS _ (by omega) _).2] | rw [(w3 _ (by omega) _).1] | rw [(w3 _ (by omega) _).2] | rw [(w2 _ (by omega) _).1] | rw [(w2 _ (by omega) _).2] | rw [(w1 _ (by omega) _).1] | rw [(w1 _ (by omega) _).2] | rw [(bV _ (by omega) _).1] | rw [(bV _ (by omega) _).2] | rw [(a1 _ (by omega) _).1] | rw [(a1 _ (by omega) _).2])
            exact w1' _ _ _ (by omega) (by omega) hb
          · by_cases e4 : i < 100
            · (repeat first | rw [up2_n (by omega)] | rw [mi0_n (by omega)] | rw [mr0_n (by omega)] | rw [(sS _ (by omega) _).1] | rw [(sS _ (by omega) _).2] | rw [(w3 _ (by omega) _).1] | rw [(w3 _ (by omega) _).2] | rw [(w2 _ (by omega) _).1] | rw [(w2 _ (by omega) _).2] | rw [(w1 _ (by omega) _).1] | rw [(w1 _ (by omega) _).2] | rw [(bV _ (by omega) _).1] | rw [(bV _ (by omega) _).2] | rw [(a1 _ (by omega) _).1] | rw [(a1 _ (by omega) _).2])
              exact w2' _ _ _ (by omega) (by omega) hb
            · by_cases e5 : i < 130
              · (repeat first | rw [up2_n (by omega)] | rw [mi0_n (by omega)] | rw [mr0_n (by omega)] | rw [(sS _ (by omega) _).1] | rw [(sS _ (by omega) _).2] | rw [(w3 _ (by omega) _).1] | rw [(w3 _ (by omega) _).2] | rw [(w2 _ (by omega) _).1] | rw [(w2 _ (by omega) _).2] | rw [(w1 _ (by omega) _).1] | rw [(w1 _ (by omega) _).2] | rw [(bV _ (by omega) _).1] | rw [(bV _ (by omega) _).2] | rw [(a1 _ (by omega) _).1] | rw [(a1 _ (by omega) _).2])
                exact w3' _ _ _ (by omega) (by omega) hb
              · (repeat first | rw [up2_n (by omega)] | rw [mi0_n (by omega)] | rw [mr0_n (by omega)] | rw [(sS _ (by omega) _).1] | rw [(sS _ (by omega) _).2] | rw [(w3 _ (by omega) _).1] | rw [(w3 _ (by omega) _).2] | rw [(w2 _ (by omega) _).1] | rw [(w2 _ (by omega) _).2] | rw [(w1 _ (by omega) _).1] | rw [(w1 _ (by omega) _).2] | rw [(bV _ (by omega) _).1] | rw [(bV _ (by omega) _).2] | rw [(a1 _ (by omega) _).1] | rw [(a1 _ (by omega) _).2])
                exact sS' _ _ _ (by omega) (by omega) hb
    · (repeat first | rw [up2_n (by omega)] | rw [mi0_n (by omega)] | rw [mr0_n (by omega)] | rw [(sS _ (by omega) _).1] | rw [(sS _ (by omega) _).2] | rw [(w3 _ (by omega) _).1] | rw [(w3 _ (by omega) _).2] | rw [(w2 _ (by omega) _).1] | rw [(w2 _ (by omega) _).2] | rw [(w1 _ (by omega) _).1] | rw [(w1 _ (by omega) _).2] | rw [(bV _ (by omega) _).1] | rw [(bV _ (by omega) _).2] | rw [(a1 _ (by omega) _).1] | rw [(a1 _ (by omega) _).2])
      exact x1
    · refine y1.row (fun a k h1 h2 h3 => ?_)
      (repeat first | rw [up2_n (by omega)] | rw [mi0_n (by omega)] | rw [mr0_n (by omega)] | rw [(sS _ (by omega) _).1] | rw [(sS _ (by omega) _).2] | rw [(w3 _ (by omega) _).1] | rw [(w3 _ (by omega) _).2] | rw [(w2 _ (by omega) _).1] | rw [(w2 _ (by omega) _).2] | rw [(w1 _ (by omega) _).1] | rw [(w1 _ (by omega) _).2] | rw [(bV _ (by omega) _).1] | rw [(bV _ (by omega) _).2] | rw [(a1 _ (by omega) _).1] | rw [(a1 _ (by omega) _).2])
    · intro p hp
      (repeat first | rw [up2_n (by omega)] | rw [mi0_n (by omega)] | rw [mr0_n (by omega)] | rw [(sS _ (by omega) _).1] | rw [(sS _ (by omega) _).2] | rw [(w3 _ (by omega) _).1] | rw [(w3 _ (by omega) _).2] | rw [(w2 _ (by omega) _).1] | rw [(w2 _ (by omega) _).2] | rw [(w1 _ (by omega) _).1] | rw [(w1 _ (by omega) _).2] | rw [(bV _ (by omega) _).1] | rw [(bV _ (by omega) _).2] | rw [(a1 _ (by omega) _).1] | rw [(a1 _ (by omega) _).2])
      exact z1 p hp
    · (repeat first | rw [up2_n (by omega)] | rw [mi0_n (by omega)] | rw [mr0_n (by omega)] | rw [(sS _ (by omega) _).1] | rw [(sS _ (by omega) _).2] | rw [(w3 _ (by omega) _).1] | rw [(w3 _ (by omega) _).2] | rw [(w2 _ (by omega) _).1] | rw [(w2 _ (by omega) _).2] | rw [(w1 _ (by omega) _).1] | rw [(w1 _ (by omega) _).2] | rw [(bV _ (by omega) _).1] | rw [(bV _ (by omega) _).2] | rw [(a1 _ (by omega) _).1] | rw [(a1 _ (by omega) _).2])
      exact hz
    · (repeat first | rw [up2_n (by omega)] | rw [mi0_n (by omega)] | rw [mr0_n (by omega)] | rw [(sS _ (by omega) _).1] | rw [(sS _ (by omega) _).2] | rw [(w3 _ (by omega) _).1] | rw [(w3 _ (by omega) _).2] | rw [(w2 _ (by omega) _).1] | rw [(w2 _ (by omega) _).2] | rw [(w1 _ (by omega) _).1] | rw [(w1 _ (by omega) _).2] | rw [(bV _ (by omega) _).1] | rw [(bV _ (by omega) _).2] | rw [(a1 _ (by omega) _).1] | rw [(a1 _ (by omega) _).2])
      rw [a2]
      (repeat first | rw [up2_n (by omega)] | rw [mi0_n (by omega)] | rw [mr0_n (by omega)] | rw [(sS _ (by omega) _).1] | rw [(sS _ (by omega) _).2] | rw [(w3 _ (by omega) _).1] | rw [(w3 _ (by omega) _).2] | rw [(w2 _ (by omega) _).1] | rw [(w2 _ (by omega) _).2] | rw [(w1 _ (by omega) _).1] | rw [(w1 _ (by omega) _).2] | rw [(bV _ (by omega) _).1] | rw [(bV _ (by omega) _).2] | rw [(a1 _ (by omega) _).1] | rw [(a1 _ (by omega) _).2])
      exact mi0_s
    · (repeat first | rw [up2_n (by omega)] | rw [mi0_n (by omega)] | rw [mr0_n (by omega)] | rw [(sS _ (by omega) _).1] | rw [(sS _ (by omega) _).2] | rw [(w3 _ (by omega) _).1] | rw [(w3 _ (by omega) _).2] | rw [(w2 _ (by omega) _).1] | rw [(w2 _ (by omega) _).2] | rw [(w1 _ (by omega) _).1] | rw [(w1 _ (by omega) _).2] | rw [(bV _ (by omega) _).1] | rw [(bV _ (by omega) _).2] | rw [(a1 _ (by omega) _).1] | rw [(a1 _ (by omega) _).2])
      exact v1
    · (repeat first | rw [up2_n (by omega)] | rw [mi0_n (by omega)] | rw [mr0_n (by omega)] | rw [(sS _ (by omega) _).1] | rw [(sS _ (by omega) _).2] | rw [(w3 _ (by omega) _).1] | rw [(w3 _ (by omega) _).2] | rw [(w2 _ (by omega) _).1] | rw [(w2 _ (by omega) _).2] | rw [(w1 _ (by omega) _).1] | rw [(w1 _ (by omega) _).2] | rw [(bV _ (by omega) _).1] | rw [(bV _ (by omega) _).2] | rw [(a1 _ (by omega) _).1] | rw [(a1 _ (by omega) _).2])
      exact v2
    · (repeat first | rw [up2_n (by omega)] | rw [mi0_n (by omega)] | rw [mr0_n (by omega)] | rw [(sS _ (by omega) _).1] | rw [(sS _ (by omega) _).2] | rw [(w3 _ (by omega) _).1] | rw [(w3 _ (by omega) _).2] | rw [(w2 _ (by omega) _).1] | rw [(w2 _ (by omega) _).2] | rw [(w1 _ (by omega) _).1] | rw [(w1 _ (by omega) _).2] | rw [(bV _ (by omega) _).1] | rw [(bV _ (by omega) _).2] | rw [(a1 _ (by omega) _).1] | rw [(a1 _ (by omega) _).2])
      exact v3
  clear a1 a1' a2 bV bV' v1 v2 v3 w1 w1' x1 y1 z1 w2 w2' w3 w3' sS sS'
  obtain ⟨g1, g2, g4⟩ := hP
  have hr0 : r0 32 0 = some 33 := g2 32 0 33 (by omega) (by omega) (by omega) rfl
  have loop : ∀ (m i : Nat) (x : Int32) (mj : MI) (rj : MR), i + m = 5 → x.toInt = (i : Int) → (∀ a k, a < 153 → a ≠ 33 → mj a k = m0 a k ∧ rj a k = r0 a k) → (∀ p, p < i → rj 33 p = some (153 + 4 * p) ∧ ∀ o k b, o < 4 → RT (153 + 4 * p + o) k = some b → rj (153 + 4 * p + o) k = some b) → V KX7_init 4 (4 * m) (127 * m) (fun r n' mi' mr' => none = r ∧ 173 = n' ∧ born 32 173 mi mi' mr mr' ∧ HI7 mi' mr') 84 [some (.ref 32), some (.ref 36), some (.int x)] [] (153 + 4 * i) mj rj := by
    intro m
    induction m with
    | zero =>
      intro i x mj rj him hx hlo hpe
      refine V_iload_n dX7_init_84 rfl ?_
      refine V_aload_n dX7_init_85 rfl ?_
      refine V_getr (b := 33) 7 0 dX7_init_86 (Or.inl lkX7_13) rfl rfl ⟨by omega, by omega⟩ ((hlo 32 0 (by omega) (by omega)).2.trans hr0) ?_
      refine V_alen (len := 5) (v := 5) dX7_init_89 rfl (by decide) ⟨by omega, by omega⟩ rfl ?_
      refine V_icmp_ge (tgt := 112) dX7_init_90 (by decide) (fun c90 => ?_) (fun c90 => absurd ((le_nat (x := 5) (a := 5) rfl hx).mpr (by omega)) c90)
      refine V_ret dX7_init_112 rfl ?_
      have hi : i = 5 := by omega
      subst hi
      refine ⟨rfl, rfl, ⟨fun a ha k => ⟨(hlo a k (by omega) (by omega)).1.trans (g1 a ha k).1, (hlo a k (by omega) (by omega)).2.trans (g1 a ha k).2⟩, fun a k b h1 h2 hb => ?_⟩, g4.row hlo⟩
      by_cases e1 : a < 153
      · by_cases e2 : a = 33
        · subst e2
          have hv := RTB_v (show RTB 33 k = some b from hb)
          obtain ⟨hk, rfl⟩ : k < 5 ∧ 153 + 4 * k = b := by omega
          exact (hpe k hk).1
        · exact (hlo a k e1 e2).2.trans (g2 a k b (by omega) e1 e2 hb)
      · have h5 := (hpe ((a - 153) / 4) (by omega)).2 ((a - 153) % 4) k b (by omega)
        rw [show 153 + 4 * ((a - 153) / 4) + (a - 153) % 4 = a by omega] at h5
        exact h5 hb
    | succ m ih =>
      intro i x mj rj him hx hlo hpe
      refine V_iload_n dX7_init_84 rfl ?_
      refine V_aload_n dX7_init_85 rfl ?_
      refine V_getr (b := 33) 7 0 dX7_init_86 (Or.inl lkX7_13) rfl rfl ⟨by omega, by omega⟩ ((hlo 32 0 (by omega) (by omega)).2.trans hr0) ?_
      refine V_alen (len := 5) (v := 5) dX7_init_89 rfl (by decide) ⟨by omega, by omega⟩ rfl ?_
      refine V_icmp_ge (tgt := 112) dX7_init_90 (by decide) (fun c90 => absurd ((le_nat (x := 5) (a := 5) rfl hx).mp c90) (by omega)) (fun c90 => ?_)
      refine V_aload_n dX7_init_93 rfl ?_
      refine V_getr (b := 33) 7 0 dX7_init_94 (Or.inl lkX7_13) rfl rfl ⟨by omega, by omega⟩ ((hlo 32 0 (by omega) (by omega)).2.trans hr0) ?_
      refine V_iload_n dX7_init_97 rfl ?_
      refine V_new (ci := 5) (cl' := (4 * m + 3)) (sl' := (127 * m + 120)) dX7_init_98 (sV (vOf (by omega)) (o := 0) (by omega)) (by decide) clX7_11 insX5 iniX5 (by omega) (by show _ = _ + 7; omega) ?_
      refine V_dup dX7_init_101 rfl ?_
      refine V_callI (cl' := (4 * m)) (sl' := (127 * m)) (qX5_init _ _ (153 + 4 * i) (vOf (by omega))) dX7_init_102 mlX7_24 mtX5_init imX5_init ⟨rfl, rfl⟩ rfl rfl (by decide) (Nat.le_of_ble_eq_true rfl) (by omega) (by omega) ?_
      rintro _ _ mk rk ⟨rfl, rfl, ⟨c1, c1'⟩, -, -, -⟩
      refine V_aast (len := 5) 4 i dX7_init_105 rfl (by decide) ⟨by omega, by omega⟩ (sV (vOf (by omega)) (o := 0) (by omega)) ⟨by omega, by omega⟩ hx (by omega) ?_
      refine V_iinc (v := _ + (1)) (L' := [_, _, _]) dX7_init_106 (by decide) rfl rfl rfl rfl ?_
      refine V_goto (tgt := 84) dX7_init_109 (by decide) ?_
      refine V.eq (ih (i + 1) _ _ _ (by omega) (ix_add hx (by decide) (by omega)) (fun a k h1 h2 => ?_) (fun p hp => ?_)) rfl rfl rfl (by omega) rfl rfl
      · refine ⟨?_, ?_⟩
        · (repeat first | rw [up2_n (by omega)] | rw [mi0_n (by omega)] | rw [mr0_n (by omega)] | rw [(c1 _ (by omega) _).1] | rw [(c1 _ (by omega) _).2])
          exact (hlo a k h1 h2).1
        · (repeat first | rw [up2_n (by omega)] | rw [mi0_n (by omega)] | rw [mr0_n (by omega)] | rw [(c1 _ (by omega) _).1] | rw [(c1 _ (by omega) _).2])
          exact (hlo a k h1 h2).2
      · by_cases e : p = i
        · rw [e]
          refine ⟨up2_h rfl rfl, fun o k b ho hb => ?_⟩
          rw [up2_n (by omega)]
          exact c1' _ _ _ (by omega) (by omega) hb
        · obtain ⟨p1, p2⟩ := hpe p (by omega)
          refine ⟨?_, fun o k b ho hb => ?_⟩
          · (repeat first | rw [up2_n (by omega)] | rw [mi0_n (by omega)] | rw [mr0_n (by omega)] | rw [(c1 _ (by omega) _).1] | rw [(c1 _ (by omega) _).2])
            exact p1
          · (repeat first | rw [up2_n (by omega)] | rw [mi0_n (by omega)] | rw [mr0_n (by omega)] | rw [(c1 _ (by omega) _).1] | rw [(c1 _ (by omega) _).2])
            exact p2 o k b ho hb
  refine V.eq (loop 5 0 _ _ _ (by omega) (by decide) (fun a k _ _ => ⟨rfl, rfl⟩) (fun p hp => absurd hp (by omega))) rfl rfl rfl rfl rfl rfl
