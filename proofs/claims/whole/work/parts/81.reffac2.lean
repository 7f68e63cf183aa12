def setOP (mi : MI) (w z : Int32) (q : Nat) : MI := up2 (up2 (up2 mi 173 8 w) 173 9 z) 173 6 (nI q)
theorem setOP_6 {mi : MI} {w z : Int32} {q : Nat} : setOP mi w z q 173 6 = nI q := up2_s
theorem setOP_9 {mi : MI} {w z : Int32} {q : Nat} : setOP mi w z q 173 9 = z := by
  unfold setOP
  rw [up2_k (by decide), up2_s]
theorem setOP_8 {mi : MI} {w z : Int32} {q : Nat} : setOP mi w z q 173 8 = w := by
  unfold setOP
  rw [up2_k (by decide), up2_k (by decide), up2_s]
theorem setOP_row {mi : MI} {w z : Int32} {q b : Nat} (h : b ≠ 173) : setOP mi w z q b = mi b := by
  unfold setOP
  rw [up2_row h, up2_row h, up2_row h]
theorem setOP_k {mi : MI} {w z : Int32} {q k : Nat} (h : k ≠ 6 ∧ k ≠ 8 ∧ k ≠ 9) : setOP mi w z q 173 k = mi 173 k := by
  unfold setOP
  rw [up2_k h.1, up2_k h.2.2, up2_k h.2.1]
theorem MdS.op {mi : MI} {a : Nat} {T : Nat → Int32} {E p q : Nat} {w z : Int32} (h : MdS mi a T E p) : MdS (setOP mi w z q) a T E q := by
  refine ⟨?_, ?_, setOP_6, fun j hj => ?_⟩
  · rw [setOP_k (by decide)]; exact h.1
  · rw [setOP_k (by decide)]; exact h.2.1
  · rw [setOP_row (by decide)]; exact h.2.2.2 j hj
theorem op_off {mi : MI} {a : Nat} {w z : Int32} {q : Nat} : Off (offPm a) mi (setOP mi w z q) := fun b k h => by
  unfold offPm at h
  unfold setOP
  rw [up2_keep (by omega), up2_keep (by omega), up2_keep (by omega)]
theorem o9_off {mi : MI} {a : Nat} {z : Int32} : Off (offPm a) mi (up2 mi 173 9 z) := Off.rf.up (Or.inl ⟨rfl, by omega⟩)
set_option maxRecDepth 4000 in
theorem qX8_factor (n : Nat) (mr : MR) (hR : RF mr) (hn : 186 ≤ n) (a : Nat) (ha5 : a < 5) (T : Nat → Int32) (E : Nat) (hE : E ≤ 100) : ∀ (r : Nat), r ≤ 5 → (∀ (mi : MI) (p : Nat) (W : List Int32), p ≤ E → MdS mi a T E p → mi 173 8 = 0 → mi 173 9 = nI (5 - r) → WR mi a W → W.length ≤ p → Ct KX8_factor (6 + 3 * r) 0 0 [.ref 173] n mi mr (PostM (fac T E r p) n mi mr a W)) := by
  intro r
  induction r with
  | zero =>
    intro hr mi p W hp hSt h8 h9 hWR hWp
    refine Ct.of2 [some (.ref 173), none, none, none, none] (by decide +kernel) (Nat.le_of_ble_eq_true rfl) rfl ?_
    have h9 : mi 173 9 = nI 5 := h9
    have hend : fnd (xB 4) (tk T E p) 6 0 = none → PostM (fac T E 0 p) n mi mr a W none n (up2 (setOP mi 1 (nI 5 + 1) p) 173 9 (nI 5 + 1 - 1)) mr := fun hno => by
      have ht : fac T E 0 p = (p, none) := by
        show pTest T E p = (p, none)
        unfold pTest
        rw [hno]
      rw [ht]
      refine ⟨rfl, rfl, rfl, op_off.tr o9_off, by rw [up2_k (by decide)]; exact setOP_6, ?_, by show up2 (setOP mi 1 (nI 5 + 1) p) 173 9 _ 173 8 = 1; rw [up2_k (by decide)]; exact setOP_8⟩
      rw [up2_s, Int32.add_sub_cancel, h9]
    refine V_aload_n dX8_factor_0 rfl ?_
    refine V_geti 8 8 dX8_factor_1 (Or.inl lkX8_63) rfl rfl ⟨by omega, by omega⟩ ?_
    refine V_if_eq (tgt := 8) dX8_factor_4 (by decide) (fun c4 => ?_) (fun c4 => absurd h8 c4)
    refine V_aload_n dX8_factor_8 rfl ?_
    refine V_callV (ci := 8) (qX8_here n mr hR hn a ha5 T E hE mi p hp hSt) dX8_factor_9 mlX8_67 mtX8_here ivX8_here rfl rfl ⟨by omega, by omega⟩ (by decide) rfl rfl (by omega) (Nat.le_of_ble_eq_true rfl) rfl rfl ?_
    rintro _ _ _ _ ⟨rfl, rfl, rfl, rfl⟩
    refine V_istore_n (L' := [_, _, _, _, _]) dX8_factor_12 (by decide) rfl rfl ?_
    refine V_iload_n dX8_factor_13 rfl ?_
    refine V_bipush (v := 33) dX8_factor_14 rfl ?_
    refine V_icmp_eq (tgt := 25) dX8_factor_16 (by decide) (fun c16 => ?_) (fun c16 => ?_)
    · refine V_aload_n dX8_factor_25 rfl ?_
      refine V_aload_n dX8_factor_26 rfl ?_
      refine V_geti 8 9 dX8_factor_27 (Or.inl lkX8_87) rfl rfl ⟨by omega, by omega⟩ ?_
      refine V_iconst (v := 5) dX8_factor_30 rfl ?_
      refine V_icmp_ne (tgt := 38) dX8_factor_31 (by decide) (fun c31 => absurd (h9.trans (by decide)) c31) (fun c31 => ?_)
      refine V_iconst (v := 1) dX8_factor_34 rfl ?_
      refine V_goto (tgt := 39) dX8_factor_35 (by decide) ?_
      refine V_puti 8 8 dX8_factor_39 (Or.inl lkX8_63) rfl rfl rfl rfl ⟨by omega, by omega⟩ ?_
      refine V_aload_n dX8_factor_42 rfl ?_
      refine V_dup dX8_factor_43 rfl ?_
      refine V_geti 8 9 dX8_factor_44 (Or.inl lkX8_87) rfl rfl ⟨by omega, by omega⟩ ?_
      rw [up2_k (by decide), h9]
      refine V_iconst (v := 1) dX8_factor_47 rfl ?_
      refine V_iadd dX8_factor_48 ?_
      refine V_puti 8 9 dX8_factor_49 (Or.inl lkX8_87) rfl rfl rfl rfl ⟨by omega, by omega⟩ ?_
      refine V_aload_n dX8_factor_52 rfl ?_
      refine V_dup dX8_factor_53 rfl ?_
      refine V_geti 8 6 dX8_factor_54 (Or.inl lkX8_57) rfl rfl ⟨by omega, by omega⟩ ?_
      rw [up2_k (by decide), up2_k (by decide), hSt.2.2.1]
      refine V_aload_n dX8_factor_57 rfl ?_
      refine V_geti 8 8 dX8_factor_58 (Or.inl lkX8_63) rfl rfl ⟨by omega, by omega⟩ ?_
      rw [up2_k (by decide), up2_s]
      refine V_if_eq (tgt := 68) dX8_factor_61 (by decide) (fun c61 => absurd c61 (by decide)) (fun c61 => ?_)
      refine V_iconst (v := 0) dX8_factor_64 rfl ?_
      refine V_goto (tgt := 69) dX8_factor_65 (by decide) ?_
      refine V_iadd dX8_factor_69 ?_
      rw [Int32.add_zero]
      refine V_puti 8 6 dX8_factor_70 (Or.inl lkX8_57) rfl rfl rfl rfl ⟨by omega, by omega⟩ ?_
      show V _ _ _ _ _ _ _ _ _ (setOP mi 1 (nI 5 + 1) p) _
      refine V_iload_n dX8_factor_73 rfl ?_
      refine V_bipush (v := 33) dX8_factor_74 rfl ?_
      refine V_icmp_ne (tgt := 91) dX8_factor_76 (by decide) (fun c76 => ?_) (fun c76 => ?_)
      · refine V_aload_n dX8_factor_91 rfl ?_
        refine V_callV (ci := 8) (qX8_someW n _ mr hR hn setOP_8) dX8_factor_92 mlX8_96 mtX8_some ivX8_some rfl rfl ⟨by omega, by omega⟩ (by decide) rfl rfl (by omega) (Nat.le_of_ble_eq_true rfl) rfl rfl ?_
        rintro _ _ _ _ ⟨rfl, rfl, rfl, rfl⟩
        refine V_aload_n dX8_factor_95 rfl ?_
        refine V_bipush (v := 41) dX8_factor_96 rfl ?_
        refine V_callV (ci := 8) (qX8_mustW n mr hR hn a ha5 T E hE _ p hp hSt.op setOP_8 _) dX8_factor_98 mlX8_80 mtX8_must ivX8_must rfl rfl ⟨by omega, by omega⟩ (by decide) rfl rfl (by omega) (Nat.le_of_ble_eq_true rfl) rfl rfl ?_
        rintro _ _ _ _ ⟨rfl, rfl, rfl, rfl⟩
        refine V_aload_n dX8_factor_101 rfl ?_
        refine V_dup dX8_factor_102 rfl ?_
        refine V_geti 8 9 dX8_factor_103 (Or.inl lkX8_87) rfl rfl ⟨by omega, by omega⟩ ?_
        rw [setOP_9]
        refine V_iconst (v := 1) dX8_factor_106 rfl ?_
        refine V_isub dX8_factor_107 ?_
        refine V_puti 8 9 dX8_factor_108 (Or.inl lkX8_87) rfl rfl rfl rfl ⟨by omega, by omega⟩ ?_
        refine V_ret dX8_factor_111 rfl ?_
        first
          | exact hend (by rw [c16]; exact no_fact.1)
          | exact hend (by rw [c22]; exact no_fact.2)
      · refine V_aload_n dX8_factor_79 rfl ?_
        refine V_callV (ci := 8) (qX8_factorW n _ mr hR hn setOP_8) dX8_factor_80 mlX8_90 mtX8_factor ivX8_factor rfl rfl ⟨by omega, by omega⟩ (by decide) rfl rfl (by omega) (Nat.le_of_ble_eq_true rfl) rfl rfl ?_
        rintro _ _ _ _ ⟨rfl, rfl, rfl, rfl⟩
        refine V_aload_n dX8_factor_83 rfl ?_
        refine V_iconst (v := -1) dX8_factor_84 rfl ?_
        refine V_callV (ci := 8) (qX8_emitsW n mr hR hn a ha5 T E hE _ setOP_8 _) dX8_factor_85 mlX8_93 mtX8_emits ivX8_emits rfl rfl ⟨by omega, by omega⟩ (by decide) rfl rfl (by omega) (Nat.le_of_ble_eq_true rfl) rfl rfl ?_
        rintro _ _ _ _ ⟨rfl, rfl, rfl, rfl⟩
        refine V_goto (tgt := 101) dX8_factor_88 (by decide) ?_
        refine V_aload_n dX8_factor_101 rfl ?_
        refine V_dup dX8_factor_102 rfl ?_
        refine V_geti 8 9 dX8_factor_103 (Or.inl lkX8_87) rfl rfl ⟨by omega, by omega⟩ ?_
        rw [setOP_9]
        refine V_iconst (v := 1) dX8_factor_106 rfl ?_
        refine V_isub dX8_factor_107 ?_
        refine V_puti 8 9 dX8_factor_108 (Or.inl lkX8_87) rfl rfl rfl rfl ⟨by omega, by omega⟩ ?_
        refine V_ret dX8_factor_111 rfl ?_
        first
          | exact hend (by rw [c16]; exact no_fact.1)
          | exact hend (by rw [c22]; exact no_fact.2)
    · refine V_iload_n dX8_factor_19 rfl ?_
      refine V_bipush (v := 40) dX8_factor_20 rfl ?_
      refine V_icmp_ne (tgt := 112) dX8_factor_22 (by decide) (fun c22 => ?_) (fun c22 => ?_)
      · exact fac_test n mr hR hn a ha5 T E hE 0 mi p W hp hSt h8 hWR hWp _
      · refine V_aload_n dX8_factor_25 rfl ?_
        refine V_aload_n dX8_factor_26 rfl ?_
        refine V_geti 8 9 dX8_factor_27 (Or.inl lkX8_87) rfl rfl ⟨by omega, by omega⟩ ?_
        refine V_iconst (v := 5) dX8_factor_30 rfl ?_
        refine V_icmp_ne (tgt := 38) dX8_factor_31 (by decide) (fun c31 => absurd (h9.trans (by decide)) c31) (fun c31 => ?_)
        refine V_iconst (v := 1) dX8_factor_34 rfl ?_
        refine V_goto (tgt := 39) dX8_factor_35 (by decide) ?_
        refine V_puti 8 8 dX8_factor_39 (Or.inl lkX8_63) rfl rfl rfl rfl ⟨by omega, by omega⟩ ?_
        refine V_aload_n dX8_factor_42 rfl ?_
        refine V_dup dX8_factor_43 rfl ?_
        refine V_geti 8 9 dX8_factor_44 (Or.inl lkX8_87) rfl rfl ⟨by omega, by omega⟩ ?_
        rw [up2_k (by decide), h9]
        refine V_iconst (v := 1) dX8_factor_47 rfl ?_
        refine V_iadd dX8_factor_48 ?_
        refine V_puti 8 9 dX8_factor_49 (Or.inl lkX8_87) rfl rfl rfl rfl ⟨by omega, by omega⟩ ?_
        refine V_aload_n dX8_factor_52 rfl ?_
        refine V_dup dX8_factor_53 rfl ?_
        refine V_geti 8 6 dX8_factor_54 (Or.inl lkX8_57) rfl rfl ⟨by omega, by omega⟩ ?_
        rw [up2_k (by decide), up2_k (by decide), hSt.2.2.1]
        refine V_aload_n dX8_factor_57 rfl ?_
        refine V_geti 8 8 dX8_factor_58 (Or.inl lkX8_63) rfl rfl ⟨by omega, by omega⟩ ?_
        rw [up2_k (by decide), up2_s]
        refine V_if_eq (tgt := 68) dX8_factor_61 (by decide) (fun c61 => absurd c61 (by decide)) (fun c61 => ?_)
        refine V_iconst (v := 0) dX8_factor_64 rfl ?_
        refine V_goto (tgt := 69) dX8_factor_65 (by decide) ?_
        refine V_iadd dX8_factor_69 ?_
        rw [Int32.add_zero]
        refine V_puti 8 6 dX8_factor_70 (Or.inl lkX8_57) rfl rfl rfl rfl ⟨by omega, by omega⟩ ?_
        show V _ _ _ _ _ _ _ _ _ (setOP mi 1 (nI 5 + 1) p) _
        refine V_iload_n dX8_factor_73 rfl ?_
        refine V_bipush (v := 33) dX8_factor_74 rfl ?_
        refine V_icmp_ne (tgt := 91) dX8_factor_76 (by decide) (fun c76 => ?_) (fun c76 => ?_)
        · refine V_aload_n dX8_factor_91 rfl ?_
          refine V_callV (ci := 8) (qX8_someW n _ mr hR hn setOP_8) dX8_factor_92 mlX8_96 mtX8_some ivX8_some rfl rfl ⟨by omega, by omega⟩ (by decide) rfl rfl (by omega) (Nat.le_of_ble_eq_true rfl) rfl rfl ?_
          rintro _ _ _ _ ⟨rfl, rfl, rfl, rfl⟩
          refine V_aload_n dX8_factor_95 rfl ?_
          refine V_bipush (v := 41) dX8_factor_96 rfl ?_
          refine V_callV (ci := 8) (qX8_mustW n mr hR hn a ha5 T E hE _ p hp hSt.op setOP_8 _) dX8_factor_98 mlX8_80 mtX8_must ivX8_must rfl rfl ⟨by omega, by omega⟩ (by decide) rfl rfl (by omega) (Nat.le_of_ble_eq_true rfl) rfl rfl ?_
          rintro _ _ _ _ ⟨rfl, rfl, rfl, rfl⟩
          refine V_aload_n dX8_factor_101 rfl ?_
          refine V_dup dX8_factor_102 rfl ?_
          refine V_geti 8 9 dX8_factor_103 (Or.inl lkX8_87) rfl rfl ⟨by omega, by omega⟩ ?_
          rw [setOP_9]
          refine V_iconst (v := 1) dX8_factor_106 rfl ?_
          refine V_isub dX8_factor_107 ?_
          refine V_puti 8 9 dX8_factor_108 (Or.inl lkX8_87) rfl rfl rfl rfl ⟨by omega, by omega⟩ ?_
          refine V_ret dX8_factor_111 rfl ?_
          first
            | exact hend (by rw [c16]; exact no_fact.1)
            | exact hend (by rw [c22]; exact no_fact.2)
        · refine V_aload_n dX8_factor_79 rfl ?_
          refine V_callV (ci := 8) (qX8_factorW n _ mr hR hn setOP_8) dX8_factor_80 mlX8_90 mtX8_factor ivX8_factor rfl rfl ⟨by omega, by omega⟩ (by decide) rfl rfl (by omega) (Nat.le_of_ble_eq_true rfl) rfl rfl ?_
          rintro _ _ _ _ ⟨rfl, rfl, rfl, rfl⟩
          refine V_aload_n dX8_factor_83 rfl ?_
          refine V_iconst (v := -1) dX8_factor_84 rfl ?_
          refine V_callV (ci := 8) (qX8_emitsW n mr hR hn a ha5 T E hE _ setOP_8 _) dX8_factor_85 mlX8_93 mtX8_emits ivX8_emits rfl rfl ⟨by omega, by omega⟩ (by decide) rfl rfl (by omega) (Nat.le_of_ble_eq_true rfl) rfl rfl ?_
          rintro _ _ _ _ ⟨rfl, rfl, rfl, rfl⟩
          refine V_goto (tgt := 101) dX8_factor_88 (by decide) ?_
          refine V_aload_n dX8_factor_101 rfl ?_
          refine V_dup dX8_factor_102 rfl ?_
          refine V_geti 8 9 dX8_factor_103 (Or.inl lkX8_87) rfl rfl ⟨by omega, by omega⟩ ?_
          rw [setOP_9]
          refine V_iconst (v := 1) dX8_factor_106 rfl ?_
          refine V_isub dX8_factor_107 ?_
          refine V_puti 8 9 dX8_factor_108 (Or.inl lkX8_87) rfl rfl rfl rfl ⟨by omega, by omega⟩ ?_
          refine V_ret dX8_factor_111 rfl ?_
          first
            | exact hend (by rw [c16]; exact no_fact.1)
            | exact hend (by rw [c22]; exact no_fact.2)
  | succ r ih =>
    intro hr mi p W hp hSt h8 h9 hWR hWp
    refine Ct.of2 [some (.ref 173), none, none, none, none] (by decide +kernel) (Nat.le_of_ble_eq_true rfl) rfl ?_
    have hF := ih (by omega)
    have hY := qX8_every n mr hR hn a ha5 T E hE r (by omega) hF
    have hS := qX8_some n mr hR hn a ha5 T E hE r (by omega) hY
    have hfac : fac T E (r + 1) p = if tk T E p = 33 then bindP (fac T E r (p + 1)) (fun q l => (q, some (l ++ [-1]))) else if tk T E p = 40 then bindP (som T E (fac T E r) (p + 1)) (fun q l => if tk T E q = 41 then (q + 1, some l) else (q, none)) else pTest T E p := rfl
    have hopen : nI (5 - (r + 1)) + 1 = nI (5 - r) := by rw [nI_p1]; exact congrArg nI (by omega)
    have hne5 : ¬ nI (5 - (r + 1)) = 5 := fun h => absurd ((eq_nat (nI_toInt (n := 5 - (r + 1)) (by omega)) (y := 5) (b := 5) rfl).mp h) (by omega)
    have hback : nI (5 - r) - 1 = mi 173 9 := by rw [h9, ← hopen, Int32.add_sub_cancel]
    refine V_aload_n dX8_factor_0 rfl ?_
    refine V_geti 8 8 dX8_factor_1 (Or.inl lkX8_63) rfl rfl ⟨by omega, by omega⟩ ?_
    refine V_if_eq (tgt := 8) dX8_factor_4 (by decide) (fun c4 => ?_) (fun c4 => absurd h8 c4)
    refine V_aload_n dX8_factor_8 rfl ?_
    refine V_callV (ci := 8) (qX8_here n mr hR hn a ha5 T E hE mi p hp hSt) dX8_factor_9 mlX8_67 mtX8_here ivX8_here rfl rfl ⟨by omega, by omega⟩ (by decide) rfl rfl (by omega) (Nat.le_of_ble_eq_true rfl) rfl rfl ?_
    rintro _ _ _ _ ⟨rfl, rfl, rfl, rfl⟩
    refine V_istore_n (L' := [_, _, _, _, _]) dX8_factor_12 (by decide) rfl rfl ?_
    refine V_iload_n dX8_factor_13 rfl ?_
    refine V_bipush (v := 33) dX8_factor_14 rfl ?_
    refine V_icmp_eq (tgt := 25) dX8_factor_16 (by decide) (fun c16 => ?_) (fun c16 => ?_)
    · refine V_aload_n dX8_factor_25 rfl ?_
      refine V_aload_n dX8_factor_26 rfl ?_
      refine V_geti 8 9 dX8_factor_27 (Or.inl lkX8_87) rfl rfl ⟨by omega, by omega⟩ ?_
      refine V_iconst (v := 5) dX8_factor_30 rfl ?_
      refine V_icmp_ne (tgt := 38) dX8_factor_31 (by decide) (fun c31 => ?_) (fun c31 => absurd (h9.symm.trans c31) hne5)
      refine V_iconst (v := 0) dX8_factor_38 rfl ?_
      refine V_puti 8 8 dX8_factor_39 (Or.inl lkX8_63) rfl rfl rfl rfl ⟨by omega, by omega⟩ ?_
      refine V_aload_n dX8_factor_42 rfl ?_
      refine V_dup dX8_factor_43 rfl ?_
      refine V_geti 8 9 dX8_factor_44 (Or.inl lkX8_87) rfl rfl ⟨by omega, by omega⟩ ?_
      rw [up2_k (by decide), h9]
      refine V_iconst (v := 1) dX8_factor_47 rfl ?_
      refine V_iadd dX8_factor_48 ?_
      rw [hopen]
      refine V_puti 8 9 dX8_factor_49 (Or.inl lkX8_87) rfl rfl rfl rfl ⟨by omega, by omega⟩ ?_
      refine V_aload_n dX8_factor_52 rfl ?_
      refine V_dup dX8_factor_53 rfl ?_
      refine V_geti 8 6 dX8_factor_54 (Or.inl lkX8_57) rfl rfl ⟨by omega, by omega⟩ ?_
      rw [up2_k (by decide), up2_k (by decide), hSt.2.2.1]
      refine V_aload_n dX8_factor_57 rfl ?_
      refine V_geti 8 8 dX8_factor_58 (Or.inl lkX8_63) rfl rfl ⟨by omega, by omega⟩ ?_
      rw [up2_k (by decide), up2_s]
      refine V_if_eq (tgt := 68) dX8_factor_61 (by decide) (fun c61 => ?_) (fun c61 => absurd rfl c61)
      refine V_iconst (v := 1) dX8_factor_68 rfl ?_
      refine V_iadd dX8_factor_69 ?_
      rw [nI_p1]
      refine V_puti 8 6 dX8_factor_70 (Or.inl lkX8_57) rfl rfl rfl rfl ⟨by omega, by omega⟩ ?_
      show V _ _ _ _ _ _ _ _ _ (setOP mi 0 (nI (5 - r)) (p + 1)) _
      refine V_iload_n dX8_factor_73 rfl ?_
      refine V_bipush (v := 33) dX8_factor_74 rfl ?_
      refine V_icmp_ne (tgt := 91) dX8_factor_76 (by decide) (fun c76 => absurd c16 c76) (fun c76 => ?_)
      have hpE := tk_is c76 (by decide)
      refine V_aload_n dX8_factor_79 rfl ?_
      refine V_callV (ci := 8) (hF _ (p + 1) W (by omega) hSt.op setOP_8 setOP_9 (hWR.off (setOP_row (by decide))) (by omega)) dX8_factor_80 mlX8_90 mtX8_factor ivX8_factor rfl rfl ⟨by omega, by omega⟩ (by decide) rfl rfl (by omega) (Nat.le_of_ble_eq_true rfl) rfl rfl ?_
      rintro _ _ m1 _ ⟨rfl, rfl, rfl, ho1, hq1, h9n, hres⟩
      have hg0 := fac_ok (T := T) (r := r) (p := p + 1) (by omega : p + 1 ≤ E)
      have hfac := hfac.trans (if_pos c76)
      cases hr9 : fac T E r (p + 1) with
      | mk q o9 =>
        rw [hr9] at hg0 hq1 hres hfac
        have hqE : q ≤ E := hg0.1.2
        cases o9 with
        | none =>
          have hres : m1 173 8 = 1 := hres
          refine V_aload_n dX8_factor_83 rfl ?_
          refine V_iconst (v := -1) dX8_factor_84 rfl ?_
          refine V_callV (ci := 8) (qX8_emitsW n mr hR hn a ha5 T E hE m1 hres _) dX8_factor_85 mlX8_93 mtX8_emits ivX8_emits rfl rfl ⟨by omega, by omega⟩ (by decide) rfl rfl (by omega) (Nat.le_of_ble_eq_true rfl) rfl rfl ?_
          rintro _ _ _ _ ⟨rfl, rfl, rfl, rfl⟩
          refine V_goto (tgt := 101) dX8_factor_88 (by decide) ?_
          refine V_aload_n dX8_factor_101 rfl ?_
          refine V_dup dX8_factor_102 rfl ?_
          refine V_geti 8 9 dX8_factor_103 (Or.inl lkX8_87) rfl rfl ⟨by omega, by omega⟩ ?_
          rw [h9n, setOP_9]
          refine V_iconst (v := 1) dX8_factor_106 rfl ?_
          refine V_isub dX8_factor_107 ?_
          rw [hback]
          refine V_puti 8 9 dX8_factor_108 (Or.inl lkX8_87) rfl rfl rfl rfl ⟨by omega, by omega⟩ ?_
          refine V_ret dX8_factor_111 rfl ?_
          rw [hfac]
          exact ⟨rfl, rfl, rfl, (op_off.tr ho1).tr o9_off, by rw [up2_k (by decide)]; exact hq1, up2_s, by show up2 m1 173 9 _ 173 8 = 1; rw [up2_k (by decide)]; exact hres⟩
        | some l =>
          obtain ⟨hres, hs⟩ := hres
          obtain ⟨g1, g2, g3, g4⟩ := hg0.2 l rfl
          have g2 : p + 1 + l.length ≤ q := g2
          have hlen : (W ++ l.map tokM).length < 140 := by
            simp only [List.length_append, List.length_map]
            omega
          have hw := addR_wr (x := -1) hs ha5
          have h9a : addR m1 a (W ++ l.map tokM).length (-1) 173 9 = nI (5 - r) := by rw [addR_173, h9n, setOP_9]
          refine V_aload_n dX8_factor_83 rfl ?_
          refine V_iconst (v := -1) dX8_factor_84 rfl ?_
          refine V_callV (ci := 8) (qX8_emits n mr hR hn a ha5 T E hE m1 (hSt.op.off hE ho1 hq1).1 hres _ hlen hs.1 _) dX8_factor_85 mlX8_93 mtX8_emits ivX8_emits rfl rfl ⟨by omega, by omega⟩ (by decide) rfl rfl (by omega) (Nat.le_of_ble_eq_true rfl) rfl rfl ?_
          rintro _ _ _ _ ⟨rfl, rfl, rfl, rfl⟩
          refine V_goto (tgt := 101) dX8_factor_88 (by decide) ?_
          refine V_aload_n dX8_factor_101 rfl ?_
          refine V_dup dX8_factor_102 rfl ?_
          refine V_geti 8 9 dX8_factor_103 (Or.inl lkX8_87) rfl rfl ⟨by omega, by omega⟩ ?_
          rw [h9a]
          refine V_iconst (v := 1) dX8_factor_106 rfl ?_
          refine V_isub dX8_factor_107 ?_
          rw [hback]
          refine V_puti 8 9 dX8_factor_108 (Or.inl lkX8_87) rfl rfl rfl rfl ⟨by omega, by omega⟩ ?_
          refine V_ret dX8_factor_111 rfl ?_
          rw [hfac]
          refine ⟨rfl, rfl, rfl, ((op_off.tr ho1).tr (addR_off hlen)).tr o9_off, by rw [up2_k (by decide), addR_173]; exact hq1, up2_s, by rw [up2_k (by decide), addR_173]; exact hres, ?_⟩
          refine (hw.off (up2_row (by decide))).as ?_
          rw [List.map_append, List.map_cons, List.map_nil, tokM_2.2.2, List.append_assoc]
    · refine V_iload_n dX8_factor_19 rfl ?_
      refine V_bipush (v := 40) dX8_factor_20 rfl ?_
      refine V_icmp_ne (tgt := 112) dX8_factor_22 (by decide) (fun c22 => ?_) (fun c22 => ?_)
      · have ht : fac T E (r + 1) p = pTest T E p := by rw [hfac, if_neg c16, if_neg c22]
        rw [ht]
        exact fac_test n mr hR hn a ha5 T E hE (r + 1) mi p W hp hSt h8 hWR hWp _
      · refine V_aload_n dX8_factor_25 rfl ?_
        refine V_aload_n dX8_factor_26 rfl ?_
        refine V_geti 8 9 dX8_factor_27 (Or.inl lkX8_87) rfl rfl ⟨by omega, by omega⟩ ?_
        refine V_iconst (v := 5) dX8_factor_30 rfl ?_
        refine V_icmp_ne (tgt := 38) dX8_factor_31 (by decide) (fun c31 => ?_) (fun c31 => absurd (h9.symm.trans c31) hne5)
        refine V_iconst (v := 0) dX8_factor_38 rfl ?_
        refine V_puti 8 8 dX8_factor_39 (Or.inl lkX8_63) rfl rfl rfl rfl ⟨by omega, by omega⟩ ?_
        refine V_aload_n dX8_factor_42 rfl ?_
        refine V_dup dX8_factor_43 rfl ?_
        refine V_geti 8 9 dX8_factor_44 (Or.inl lkX8_87) rfl rfl ⟨by omega, by omega⟩ ?_
        rw [up2_k (by decide), h9]
        refine V_iconst (v := 1) dX8_factor_47 rfl ?_
        refine V_iadd dX8_factor_48 ?_
        rw [hopen]
        refine V_puti 8 9 dX8_factor_49 (Or.inl lkX8_87) rfl rfl rfl rfl ⟨by omega, by omega⟩ ?_
        refine V_aload_n dX8_factor_52 rfl ?_
        refine V_dup dX8_factor_53 rfl ?_
        refine V_geti 8 6 dX8_factor_54 (Or.inl lkX8_57) rfl rfl ⟨by omega, by omega⟩ ?_
        rw [up2_k (by decide), up2_k (by decide), hSt.2.2.1]
        refine V_aload_n dX8_factor_57 rfl ?_
        refine V_geti 8 8 dX8_factor_58 (Or.inl lkX8_63) rfl rfl ⟨by omega, by omega⟩ ?_
        rw [up2_k (by decide), up2_s]
        refine V_if_eq (tgt := 68) dX8_factor_61 (by decide) (fun c61 => ?_) (fun c61 => absurd rfl c61)
        refine V_iconst (v := 1) dX8_factor_68 rfl ?_
        refine V_iadd dX8_factor_69 ?_
        rw [nI_p1]
        refine V_puti 8 6 dX8_factor_70 (Or.inl lkX8_57) rfl rfl rfl rfl ⟨by omega, by omega⟩ ?_
        show V _ _ _ _ _ _ _ _ _ (setOP mi 0 (nI (5 - r)) (p + 1)) _
        refine V_iload_n dX8_factor_73 rfl ?_
        refine V_bipush (v := 33) dX8_factor_74 rfl ?_
        refine V_icmp_ne (tgt := 91) dX8_factor_76 (by decide) (fun c76 => ?_) (fun c76 => absurd c76 c16)
        have hpE := tk_is c22 (by decide)
        refine V_aload_n dX8_factor_91 rfl ?_
        refine V_callV (ci := 8) (hS _ (p + 1) W (by omega) hSt.op setOP_8 setOP_9 (hWR.off (setOP_row (by decide))) (by omega)) dX8_factor_92 mlX8_96 mtX8_some ivX8_some rfl rfl ⟨by omega, by omega⟩ (by decide) rfl rfl (by omega) (Nat.le_of_ble_eq_true rfl) rfl rfl ?_
        rintro _ _ m1 _ ⟨rfl, rfl, rfl, ho1, hq1, h9n, hres⟩
        have hg0 := som_ok (T := T) (F := fac T E r) (fun p hp => fac_ok (r := r) hp) (p := p + 1) (by omega : p + 1 ≤ E)
        have hfac := hfac.trans ((if_neg c76).trans (if_pos c22))
        cases hr9 : som T E (fac T E r) (p + 1) with
        | mk q o9 =>
          rw [hr9] at hg0 hq1 hres hfac
          have hqE : q ≤ E := hg0.1.2
          have hSq := hSt.op.off hE ho1 hq1
          cases o9 with
          | none =>
            have hres : m1 173 8 = 1 := hres
            refine V_aload_n dX8_factor_95 rfl ?_
            refine V_bipush (v := 41) dX8_factor_96 rfl ?_
            refine V_callV (ci := 8) (qX8_mustW n mr hR hn a ha5 T E hE m1 q hqE hSq hres _) dX8_factor_98 mlX8_80 mtX8_must ivX8_must rfl rfl ⟨by omega, by omega⟩ (by decide) rfl rfl (by omega) (Nat.le_of_ble_eq_true rfl) rfl rfl ?_
            rintro _ _ _ _ ⟨rfl, rfl, rfl, rfl⟩
            refine V_aload_n dX8_factor_101 rfl ?_
            refine V_dup dX8_factor_102 rfl ?_
            refine V_geti 8 9 dX8_factor_103 (Or.inl lkX8_87) rfl rfl ⟨by omega, by omega⟩ ?_
            rw [h9n, setOP_9]
            refine V_iconst (v := 1) dX8_factor_106 rfl ?_
            refine V_isub dX8_factor_107 ?_
            rw [hback]
            refine V_puti 8 9 dX8_factor_108 (Or.inl lkX8_87) rfl rfl rfl rfl ⟨by omega, by omega⟩ ?_
            refine V_ret dX8_factor_111 rfl ?_
            rw [hfac]
            exact ⟨rfl, rfl, rfl, (op_off.tr ho1).tr o9_off, by rw [up2_k (by decide)]; exact hq1, up2_s, by show up2 m1 173 9 _ 173 8 = 1; rw [up2_k (by decide)]; exact hres⟩
          | some l =>
            obtain ⟨hres, hs⟩ := hres
            have hfac : fac T E (r + 1) p = if tk T E q = 41 then (q + 1, some l) else (q, none) := hfac
            refine V_aload_n dX8_factor_95 rfl ?_
            refine V_bipush (v := 41) dX8_factor_96 rfl ?_
            refine V_callV (ci := 8) (qX8_must n mr hR hn a ha5 T E hE m1 q hqE hSq hres 41) dX8_factor_98 mlX8_80 mtX8_must ivX8_must rfl rfl ⟨by omega, by omega⟩ (by decide) rfl rfl (by omega) (Nat.le_of_ble_eq_true rfl) rfl rfl ?_
            rintro _ _ _ _ ⟨rfl, rfl, rfl, rfl⟩
            refine V_aload_n dX8_factor_101 rfl ?_
            refine V_dup dX8_factor_102 rfl ?_
            refine V_geti 8 9 dX8_factor_103 (Or.inl lkX8_87) rfl rfl ⟨by omega, by omega⟩ ?_
            rw [setWP_k (by decide), h9n, setOP_9]
            refine V_iconst (v := 1) dX8_factor_106 rfl ?_
            refine V_isub dX8_factor_107 ?_
            rw [hback]
            refine V_puti 8 9 dX8_factor_108 (Or.inl lkX8_87) rfl rfl rfl rfl ⟨by omega, by omega⟩ ?_
            refine V_ret dX8_factor_111 rfl ?_
            rw [hfac]
            by_cases h41 : tk T E q = 41
            · rw [if_pos h41, if_pos h41]
              refine ⟨rfl, rfl, rfl, ((op_off.tr ho1).tr wp_off).tr o9_off, by rw [up2_k (by decide)]; exact setWP_6, up2_s, by rw [up2_k (by decide), setWP_8, b01_f (fun h => h h41)], ?_⟩
              exact (hs.off (setWP_row (by decide))).off (up2_row (by decide))
            · rw [if_neg h41, if_neg h41]
              refine ⟨rfl, rfl, rfl, ((op_off.tr ho1).tr wp_off).tr o9_off, by rw [up2_k (by decide)]; exact setWP_6, up2_s, ?_⟩
              show up2 _ 173 9 _ 173 8 = 1
              rw [up2_k (by decide), setWP_8, b01_t h41]
