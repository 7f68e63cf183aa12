set_option maxRecDepth 4000 in
theorem qX4_init (mi : MI) (mr : MR)  : Ct KX4_init 1 22 136 [.ref 130, .ref 40] 131 mi mr (fun r n' mi' mr' => none = r ∧ 153 = n' ∧ born 130 153 mi mi' mr mr') := by
  refine Ct.of2 [some (.ref 130), some (.ref 40)] (by decide +kernel) (Nat.le_of_ble_eq_true rfl) rfl ?_
  refine V_aload_n dX4_init_0 rfl ?_
  refine V_objInit dX4_init_1 mlX4_3 im_obj cm_obj (by decide) (Nat.le_of_ble_eq_true rfl) ?_
  refine V_aload_n dX4_init_4 rfl ?_
  refine V_bipush (v := 6) dX4_init_5 rfl ?_
  refine V_bipush (v := 6) dX4_init_7 rfl ?_
  refine V_multi (N := 6) (M := 6) (cl' := 15) (sl' := 94) dX4_init_9 rfl (by decide +kernel) clX4_11 ac_int rfl rfl (by decide) (by decide) rfl rfl ?_
  refine V_putrF 4 1 dX4_init_13  lkX4_13 rfl ⟨rfl, rfl⟩ rfl ⟨by omega, by omega⟩ ?_
  refine V_aload_n dX4_init_16 rfl ?_
  refine V_bipush (v := 6) dX4_init_17 rfl ?_
  refine V_bipush (v := 6) dX4_init_19 rfl ?_
  refine V_multi (N := 6) (M := 6) (cl' := 8) (sl' := 52) dX4_init_21 rfl (by decide +kernel) clX4_11 ac_int rfl rfl (by decide) (by decide) rfl rfl ?_
  refine V_putrF 4 2 dX4_init_25  lkX4_16 rfl ⟨rfl, rfl⟩ rfl ⟨by omega, by omega⟩ ?_
  refine V_aload_n dX4_init_28 rfl ?_
  refine V_bipush (v := 6) dX4_init_29 rfl ?_
  refine V_newa (t := 0) (len := 6) (cl' := 7) (sl' := 46) dX4_init_31 rfl rfl (by decide) ac_int rfl (by decide) rfl rfl ?_
  refine V_putrF 4 3 dX4_init_33  lkX4_19 rfl ⟨rfl, rfl⟩ rfl ⟨by omega, by omega⟩ ?_
  refine V_aload_n dX4_init_36 rfl ?_
  refine V_bipush (v := 6) dX4_init_37 rfl ?_
  refine V_newa (t := 0) (len := 6) (cl' := 6) (sl' := 40) dX4_init_39 rfl rfl (by decide) ac_int rfl (by decide) rfl rfl ?_
  refine V_putrF 4 4 dX4_init_41  lkX4_23 rfl ⟨rfl, rfl⟩ rfl ⟨by omega, by omega⟩ ?_
  refine V_aload_n dX4_init_44 rfl ?_
  refine V_bipush (v := 6) dX4_init_45 rfl ?_
  refine V_newa (t := 0) (len := 6) (cl' := 5) (sl' := 34) dX4_init_47 rfl rfl (by decide) ac_int rfl (by decide) rfl rfl ?_
  refine V_putrF 4 5 dX4_init_49  lkX4_26 rfl ⟨rfl, rfl⟩ rfl ⟨by omega, by omega⟩ ?_
  refine V_aload_n dX4_init_52 rfl ?_
  refine V_bipush (v := 6) dX4_init_53 rfl ?_
  refine V_newa (t := 0) (len := 6) (cl' := 4) (sl' := 28) dX4_init_55 rfl rfl (by decide) ac_int rfl (by decide) rfl rfl ?_
  refine V_putrF 4 6 dX4_init_57  lkX4_29 rfl ⟨rfl, rfl⟩ rfl ⟨by omega, by omega⟩ ?_
  refine V_aload_n dX4_init_60 rfl ?_
  refine V_bipush (v := 7) dX4_init_61 rfl ?_
  refine V_newa (t := 0) (len := 7) (cl' := 3) (sl' := 21) dX4_init_63 rfl rfl (by decide) ac_int rfl (by decide) rfl rfl ?_
  refine V_putrF 4 7 dX4_init_65  lkX4_32 rfl ⟨rfl, rfl⟩ rfl ⟨by omega, by omega⟩ ?_
  refine V_aload_n dX4_init_68 rfl ?_
  refine V_bipush (v := 7) dX4_init_69 rfl ?_
  refine V_newa (t := 0) (len := 7) (cl' := 2) (sl' := 14) dX4_init_71 rfl rfl (by decide) ac_int rfl (by decide) rfl rfl ?_
  refine V_putrF 4 8 dX4_init_73  lkX4_35 rfl ⟨rfl, rfl⟩ rfl ⟨by omega, by omega⟩ ?_
  refine V_aload_n dX4_init_76 rfl ?_
  refine V_bipush (v := 7) dX4_init_77 rfl ?_
  refine V_newa (t := 0) (len := 7) (cl' := 1) (sl' := 7) dX4_init_79 rfl rfl (by decide) ac_int rfl (by decide) rfl rfl ?_
  refine V_putrF 4 9 dX4_init_81  lkX4_38 rfl ⟨rfl, rfl⟩ rfl ⟨by omega, by omega⟩ ?_
  refine V_aload_n dX4_init_84 rfl ?_
  refine V_bipush (v := 7) dX4_init_85 rfl ?_
  refine V_newa (t := 0) (len := 7) (cl' := 0) (sl' := 0) dX4_init_87 rfl rfl (by decide) ac_int rfl (by decide) rfl rfl ?_
  refine V_putrF 4 10 dX4_init_89  lkX4_41 rfl ⟨rfl, rfl⟩ rfl ⟨by omega, by omega⟩ ?_
  refine V_aload_n dX4_init_92 rfl ?_
  refine V_aload_n dX4_init_93 rfl ?_
  refine V_putrF 4 0 dX4_init_94  lkX4_44 rfl ⟨rfl, rfl⟩ rfl ⟨by omega, by omega⟩ ?_
  refine V_ret dX4_init_97 rfl ?_
  refine ⟨rfl, rfl, ⟨fun i hi k => ⟨by (repeat first | rw [up2_n (by omega)] | rw [mi0_n (by omega)] | rw [mr0_n (by omega)] | rw [miR_n (by omega)] | rw [mrG_n (by omega)]), by (repeat first | rw [up2_n (by omega)] | rw [mi0_n (by omega)] | rw [mr0_n (by omega)] | rw [miR_n (by omega)] | rw [mrG_n (by omega)])⟩, fun i k b h1 h2 hb => ?_⟩⟩
  obtain ⟨o, rfl⟩ : ∃ o, i = 130 + o := ⟨i - 130, by omega⟩
  rw [RT_S (by omega)] at hb
  rcases RTS_v hb with ⟨rfl, h⟩ | ⟨rfl, h3, rfl⟩ | ⟨rfl, h3, rfl⟩
  · rcases h with ⟨rfl, rfl⟩ | ⟨rfl, rfl⟩ | ⟨rfl, rfl⟩ | ⟨h3, h4, rfl⟩
    · (repeat first | rw [up2_n (by omega)] | rw [mi0_n (by omega)] | rw [mr0_n (by omega)] | rw [miR_n (by omega)] | rw [mrG_n (by omega)]); exact up2_h rfl rfl
    · (repeat first | rw [up2_n (by omega)] | rw [mi0_n (by omega)] | rw [mr0_n (by omega)] | rw [miR_n (by omega)] | rw [mrG_n (by omega)]); exact up2_h rfl rfl
    · (repeat first | rw [up2_n (by omega)] | rw [mi0_n (by omega)] | rw [mr0_n (by omega)] | rw [miR_n (by omega)] | rw [mrG_n (by omega)]); exact up2_h rfl rfl
    · have h5 : k = 3 ∨ k = 4 ∨ k = 5 ∨ k = 6 ∨ k = 7 ∨ k = 8 ∨ k = 9 ∨ k = 10 := by omega
      rcases h5 with rfl | rfl | rfl | rfl | rfl | rfl | rfl | rfl
      all_goals ((repeat first | rw [up2_n (by omega)] | rw [mi0_n (by omega)] | rw [mr0_n (by omega)] | rw [miR_n (by omega)] | rw [mrG_n (by omega)]); exact up2_h rfl rfl)
  · (repeat first | rw [up2_n (by omega)] | rw [mi0_n (by omega)] | rw [mr0_n (by omega)] | rw [miR_n (by omega)] | rw [mrG_n (by omega)]); exact mrG_s rfl h3
  · (repeat first | rw [up2_n (by omega)] | rw [mi0_n (by omega)] | rw [mr0_n (by omega)] | rw [miR_n (by omega)] | rw [mrG_n (by omega)]); exact mrG_s rfl h3
set_option maxRecDepth 4000 in
theorem qX8_init (mi : MI) (mr : MR) (hz : ∀ k, mi 173 k = 0)  : Ct KX8_init 1 12 2103 [.ref 173] 174 mi mr (fun r n' mi' mr' => none = r ∧ 186 = n' ∧ born 173 186 mi mi' mr mr' ∧ mi' 173 4 = 0 ∧ mi' 173 25 = 0 ∧ (∀ k, mi' 174 k = if k = 0 then 100 else if k = 18 then -1 else 0)) := by
  refine Ct.of2 [some (.ref 173)] (by decide +kernel) (Nat.le_of_ble_eq_true rfl) rfl ?_
  refine V_aload_n dX8_init_0 rfl ?_
  refine V_objInit dX8_init_1 mlX8_3 im_obj cm_obj (by decide) (Nat.le_of_ble_eq_true rfl) ?_
  refine V_aload_n dX8_init_4 rfl ?_
  refine V_sipush (v := 938) dX8_init_5 rfl ?_
  refine V_newa (t := 0) (len := 938) (cl' := 11) (sl' := 1165) dX8_init_8 rfl rfl (by decide) ac_int rfl (by decide) rfl rfl ?_
  refine V_putrF 8 1 dX8_init_10  lkX8_9 rfl ⟨rfl, rfl⟩ rfl ⟨by omega, by omega⟩ ?_
  refine V_aload_n dX8_init_13 rfl ?_
  refine V_sipush (v := 938) dX8_init_14 rfl ?_
  refine V_newa (t := 0) (len := 938) (cl' := 10) (sl' := 227) dX8_init_17 rfl rfl (by decide) ac_int rfl (by decide) rfl rfl ?_
  refine V_putrF 8 2 dX8_init_19  lkX8_15 rfl ⟨rfl, rfl⟩ rfl ⟨by omega, by omega⟩ ?_
  refine V_aload_n dX8_init_22 rfl ?_
  refine V_bipush (v := 12) dX8_init_23 rfl ?_
  refine V_newa (t := 0) (len := 12) (cl' := 9) (sl' := 215) dX8_init_25 rfl rfl (by decide) ac_int rfl (by decide) rfl rfl ?_
  refine V_putrF 8 3 dX8_init_27  lkX8_18 rfl ⟨rfl, rfl⟩ rfl ⟨by omega, by omega⟩ ?_
  refine V_aload_n dX8_init_30 rfl ?_
  refine V_bipush (v := 6) dX8_init_31 rfl ?_
  refine V_newa (t := 0) (len := 6) (cl' := 8) (sl' := 209) dX8_init_33 rfl rfl (by decide) ac_int rfl (by decide) rfl rfl ?_
  refine V_putrF 8 10 dX8_init_35  lkX8_21 rfl ⟨rfl, rfl⟩ rfl ⟨by omega, by omega⟩ ?_
  refine V_aload_n dX8_init_38 rfl ?_
  refine V_bipush (v := 64) dX8_init_39 rfl ?_
  refine V_newa (t := 2) (len := 64) (cl' := 7) (sl' := 145) dX8_init_41 rfl rfl (by decide) ac_boolean rfl (by decide) rfl rfl ?_
  refine V_putrF 8 11 dX8_init_43  lkX8_24 rfl ⟨rfl, rfl⟩ rfl ⟨by omega, by omega⟩ ?_
  refine V_aload_n dX8_init_46 rfl ?_
  refine V_bipush (v := 36) dX8_init_47 rfl ?_
  refine V_newa (t := 0) (len := 36) (cl' := 6) (sl' := 109) dX8_init_49 rfl rfl (by decide) ac_int rfl (by decide) rfl rfl ?_
  refine V_putrF 8 12 dX8_init_51  lkX8_28 rfl ⟨rfl, rfl⟩ rfl ⟨by omega, by omega⟩ ?_
  refine V_aload_n dX8_init_54 rfl ?_
  refine V_bipush (v := 36) dX8_init_55 rfl ?_
  refine V_newa (t := 0) (len := 36) (cl' := 5) (sl' := 73) dX8_init_57 rfl rfl (by decide) ac_int rfl (by decide) rfl rfl ?_
  refine V_putrF 8 13 dX8_init_59  lkX8_31 rfl ⟨rfl, rfl⟩ rfl ⟨by omega, by omega⟩ ?_
  refine V_aload_n dX8_init_62 rfl ?_
  refine V_bipush (v := 6) dX8_init_63 rfl ?_
  refine V_newa (t := 0) (len := 6) (cl' := 4) (sl' := 67) dX8_init_65 rfl rfl (by decide) ac_int rfl (by decide) rfl rfl ?_
  refine V_putrF 8 14 dX8_init_67  lkX8_34 rfl ⟨rfl, rfl⟩ rfl ⟨by omega, by omega⟩ ?_
  refine V_aload_n dX8_init_70 rfl ?_
  refine V_bipush (v := 6) dX8_init_71 rfl ?_
  refine V_newa (t := 0) (len := 6) (cl' := 3) (sl' := 61) dX8_init_73 rfl rfl (by decide) ac_int rfl (by decide) rfl rfl ?_
  refine V_putrF 8 15 dX8_init_75  lkX8_37 rfl ⟨rfl, rfl⟩ rfl ⟨by omega, by omega⟩ ?_
  refine V_aload_n dX8_init_78 rfl ?_
  refine V_iconst (v := 5) dX8_init_79 rfl ?_
  refine V_newa (t := 0) (len := 5) (cl' := 2) (sl' := 56) dX8_init_80 rfl rfl (by decide) ac_int rfl (by decide) rfl rfl ?_
  refine V_putrF 8 16 dX8_init_82  lkX8_40 rfl ⟨rfl, rfl⟩ rfl ⟨by omega, by omega⟩ ?_
  refine V_aload_n dX8_init_85 rfl ?_
  refine V_bipush (v := 36) dX8_init_86 rfl ?_
  refine V_newa (t := 2) (len := 36) (cl' := 1) (sl' := 20) dX8_init_88 rfl rfl (by decide) ac_boolean rfl (by decide) rfl rfl ?_
  refine V_putrF 8 17 dX8_init_90  lkX8_43 rfl ⟨rfl, rfl⟩ rfl ⟨by omega, by omega⟩ ?_
  refine V_aload_n dX8_init_93 rfl ?_
  refine V_bipush (v := 20) dX8_init_94 rfl ?_
  refine V_newa (t := 0) (len := 20) (cl' := 0) (sl' := 0) dX8_init_96 rfl rfl (by decide) ac_int rfl (by decide) rfl rfl ?_
  refine V_putrF 8 24 dX8_init_98  lkX8_46 rfl ⟨rfl, rfl⟩ rfl ⟨by omega, by omega⟩ ?_
  refine V_aload_n dX8_init_101 rfl ?_
  refine V_getr (b := 174) 8 1 dX8_init_102 (Or.inl lkX8_9) rfl rfl ⟨by omega, by omega⟩ (by (repeat first | rw [up2_n (by omega)] | rw [mi0_n (by omega)] | rw [mr0_n (by omega)] | rw [miR_n (by omega)] | rw [mrG_n (by omega)]); exact up2_h rfl rfl) ?_
  refine V_bipush (v := 18) dX8_init_105 rfl ?_
  refine V_iconst (v := -1) dX8_init_107 rfl ?_
  refine V_iast (len := 938) 18 dX8_init_108 rfl ⟨by omega, by omega⟩ (by decide) (by omega) ?_
  refine V_aload_n dX8_init_109 rfl ?_
  refine V_getr (b := 174) 8 1 dX8_init_110 (Or.inl lkX8_9) rfl rfl ⟨by omega, by omega⟩ (by (repeat first | rw [up2_n (by omega)] | rw [mi0_n (by omega)] | rw [mr0_n (by omega)] | rw [miR_n (by omega)] | rw [mrG_n (by omega)]); exact up2_h rfl rfl) ?_
  refine V_iconst (v := 0) dX8_init_113 rfl ?_
  refine V_bipush (v := 100) dX8_init_114 rfl ?_
  refine V_iast (len := 938) 0 dX8_init_116 rfl ⟨by omega, by omega⟩ (by decide) (by omega) ?_
  refine V_ret dX8_init_117 rfl ?_
  refine ⟨rfl, rfl, ⟨fun i hi k => ⟨by (repeat first | rw [up2_n (by omega)] | rw [mi0_n (by omega)] | rw [mr0_n (by omega)] | rw [miR_n (by omega)] | rw [mrG_n (by omega)]), by (repeat first | rw [up2_n (by omega)] | rw [mi0_n (by omega)] | rw [mr0_n (by omega)] | rw [miR_n (by omega)] | rw [mrG_n (by omega)])⟩, fun i k b h1 h2 hb => ?_⟩, ?_, ?_, fun k => ?_⟩
  · obtain ⟨o, rfl⟩ : ∃ o, i = 173 + o := ⟨i - 173, by omega⟩
    rw [RT_M (by omega)] at hb
    obtain ⟨rfl, h⟩ := RTM_v hb
    rcases h with ⟨rfl, rfl⟩ | ⟨rfl, rfl⟩ | ⟨rfl, rfl⟩ | ⟨rfl, rfl⟩ | ⟨rfl, rfl⟩ | ⟨rfl, rfl⟩ | ⟨rfl, rfl⟩ | ⟨rfl, rfl⟩ | ⟨rfl, rfl⟩ | ⟨rfl, rfl⟩ | ⟨rfl, rfl⟩ | ⟨rfl, rfl⟩
    all_goals ((repeat first | rw [up2_n (by omega)] | rw [mi0_n (by omega)] | rw [mr0_n (by omega)] | rw [miR_n (by omega)] | rw [mrG_n (by omega)]); exact up2_h rfl rfl)
  · (repeat first | rw [up2_n (by omega)] | rw [mi0_n (by omega)] | rw [mr0_n (by omega)] | rw [miR_n (by omega)] | rw [mrG_n (by omega)]); exact hz 4
  · (repeat first | rw [up2_n (by omega)] | rw [mi0_n (by omega)] | rw [mr0_n (by omega)] | rw [miR_n (by omega)] | rw [mrG_n (by omega)]); exact hz 25
  · by_cases e0 : k = 0
    · rw [if_pos e0]
      exact up2_h rfl e0
    · rw [if_neg e0, up2_n (by omega)]
      by_cases e1 : k = 18
      · rw [if_pos e1]
        exact up2_h rfl e1
      · rw [if_neg e1, up2_n (by omega)]
        (repeat first | rw [up2_n (by omega)] | rw [mi0_n (by omega)] | rw [mr0_n (by omega)] | rw [miR_n (by omega)] | rw [mrG_n (by omega)])
        exact mi0_s
