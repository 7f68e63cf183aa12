theorem ev_dec : ∀ (N p : Fin 7), p.1 < N.1 → (((1 : Int32) <<< (nI N.1 &&& 31)) - 1) >>> (nI p.1 &&& 31) &&& 1 = 1 := by decide +kernel
theorem shl_dec : ∀ (N : Fin 7), (1 : Int32) <<< (nI N.1 &&& 31) = nI (2 ^ N.1) ∧ 1 ≤ 2 ^ N.1 ∧ 2 ^ N.1 ≤ 64 := by decide +kernel
theorem ask_m {S : Nat → Int32} {c : CT} (h : okCT S c) {x : Int32} : (x = 0 ∨ (0 ≤ x - 10 ∧ x - 10 < S 12)) ↔ okAsk S x := by
  refine or_congr Iff.rfl ⟨fun q => ⟨?_, q.2⟩, fun q => ⟨?_, q.2⟩⟩
  · obtain ⟨k, k1, k2⟩ := idxC (b01_n.mpr (And.intro q.1 q.2)) h.1.1
    have hl := h.1.2
    have e : x.toInt = (k : Int) + 10 := by
      have q := i_add k1 (y := 10) (b := 10) (by decide) (by omega)
      rw [Int32.sub_add_cancel] at q
      exact q
    rw [Int32.le_iff_toInt_le, e]
    simp only [Int32.reduceToInt]
    omega
  · have hw := x.toInt_lt
    have h1 := q.1
    rw [Int32.le_iff_toInt_le] at h1 ⊢
    simp only [Int32.reduceToInt] at h1 ⊢
    rw [i_sub rfl (b := 10) (by decide) (by omega)]
    omega
theorem set_m {S : Nat → Int32} {c : CT} (h : okCT S c) {x : Int32} : (0 ≤ x ∧ x ≤ (1 <<< (S 12 &&& 31)) - 1) ↔ (0 ≤ x ∧ x < 1 <<< (S 12 &&& 31)) := by
  have hl := h.1.2
  rw [nI_of_toInt h.1.1]
  obtain ⟨e, e1, e2⟩ := shl_dec ⟨cN c, by omega⟩
  have e : (1 : Int32) <<< (nI (cN c) &&& 31) = nI (2 ^ cN c) := e
  rw [e]
  have e1 : 1 ≤ 2 ^ cN c := e1
  have e2 : 2 ^ cN c ≤ 64 := e2
  have hz : (nI (2 ^ cN c)).toInt = ((2 ^ cN c : Nat) : Int) := nI_toInt (by omega)
  refine and_congr Iff.rfl ?_
  rw [Int32.le_iff_toInt_le, Int32.lt_iff_toInt_lt, i_sub hz (b := 1) (by decide) (by omega), hz]
  omega
theorem rBest_q {S : Nat → Int32} {c : CT} {nc : Nat} {e : Nat → Nat} {s nv : Nat → Int32} {sort : Nat} {set : Int32} (h : ¬ sort = 1) : rBest S c nc e s nv sort set = qBest S c nc e s nv sort set := by
  unfold rBest qBest
  refine congrArg (fdB none) (lvs_congr (fun q k _ _ => ?_) (fun _ => rfl))
  unfold rF qF
  rw [decide_eq_decide.mpr (show (sort = 1 ∨ (set >>> (nI q &&& 31)) &&& 1 = 1) ↔ ((set >>> (nI q &&& 31)) &&& 1 = 1) from ⟨fun g => g.resolve_left h, Or.inr⟩)]
theorem rBest_1 {S : Nat → Int32} {c : CT} {nc : Nat} {e : Nat → Nat} {s nv : Nat → Int32} (h : okCT S c) : rBest S c nc e s nv 1 ((1 <<< (S 12 &&& 31)) - 1) = qBest S c nc e s nv 1 0 := by
  have hl := h.1.2
  unfold rBest qBest
  refine congrArg (fdB none) (lvs_congr (fun q k _ hq => ?_) (fun _ => rfl))
  have hb := ev_dec ⟨cN c, by omega⟩ ⟨q, by omega⟩ (by show q < cN c; omega)
  have hb : (((1 : Int32) <<< (nI (cN c) &&& 31)) - 1) >>> (nI q &&& 31) &&& 1 = 1 := hb
  unfold rF qF
  rw [nI_of_toInt h.1.1, decide_eq_true hb, decide_eq_true (Or.inl rfl : (1 : Nat) = 1 ∨ _)]
theorem best_2 {S : Nat → Int32} {c : CT} (h : okCT S c) {nc : Nat} {e : Nat → Nat} {s nv : Nat → Int32} {set : Int32} : ∃ x, qBest S c nc e s nv 2 set = some x := by
  obtain ⟨x, hx⟩ := lvs_ne (M := qF S 2 set) (C := cCost 2 (cN c) (qA S) (qB S nc e s nv 2)) (W := cW c) (m := cN c) (p := 0) (lf := qL S) (s := qZ) (hv := 0) h.1.2 (fun q _ _ => qF_2 rfl)
  exact fdB_ne hx
theorem not_ten {w : Int32} : ¬ (10 : Int32) ≤ 0 := by decide
set_option maxRecDepth 4000 in
theorem qX8_everybody (n : Nat) (mi : MI) (mr : MR) (hR : RF mr) (hn : 186 ≤ n)  : Ct KX8_everybody 1 0 0 [.ref 173] n mi mr (eqQ (some (.int ((1 <<< (mi 174 12 &&& 31)) - 1))) n mi mr) := by
  refine Ct.of2 [some (.ref 173)] (by decide +kernel) (Nat.le_of_ble_eq_true rfl) rfl ?_
  refine V_iconst (v := 1) dX8_everybody_0 rfl ?_
  refine V_aload_n dX8_everybody_1 rfl ?_
  refine V_getr (b := 174) 8 1 dX8_everybody_2 (Or.inl lkX8_9) rfl rfl ⟨by omega, by omega⟩ (hR _ _ _ rfl) ?_
  refine V_bipush (v := 12) dX8_everybody_5 rfl ?_
  refine V_iald (len := 938) 12 dX8_everybody_7 rfl ⟨by omega, by omega⟩ (by decide) (by omega) ?_
  refine V_ishl dX8_everybody_8 ?_
  refine V_iconst (v := 1) dX8_everybody_9 rfl ?_
  refine V_isub dX8_everybody_10 ?_
  refine V_iret dX8_everybody_11 rfl rfl ?_
  exact ⟨rfl, rfl, rfl, rfl⟩
set_option maxRecDepth 4000 in
theorem qX8_isAsked (n : Nat) (mi : MI) (mr : MR) (hR : RF mr) (hn : 186 ≤ n) (c : CT) (hBD : BD (mi 174) c) (x : Int32)  : Ct KX8_isAsked 3 0 0 [.ref 173, .int x] n mi mr (eqQ (some (.int (b01 (x = 0 ∨ (0 ≤ x - 10 ∧ x - 10 < mi 174 12))))) n mi mr) := by
  refine Ct.of2 [some (.ref 173), some (.int x)] (by decide +kernel) (Nat.le_of_ble_eq_true rfl) rfl ?_
  obtain ⟨⟨hN, hN6⟩, ⟨hW, hW5⟩, ⟨hL, hL5⟩, ⟨hT, hT100⟩, ⟨hS, hS5⟩, ⟨hP, hP8⟩, ⟨hBk, hB8⟩⟩ := hBD.1
  refine V_iload_n dX8_isAsked_0 rfl ?_
  refine V_if_eq (tgt := 15) dX8_isAsked_1 (by decide) (fun c1 => ?_) (fun c1 => ?_)
  · refine V_iconst (v := 1) dX8_isAsked_15 rfl ?_
    refine V_goto (tgt := 20) dX8_isAsked_16 (by decide) ?_
    refine V_iret dX8_isAsked_20 rfl rfl ?_
    first
      | exact ⟨congrArg (fun v => some (Value.int v)) (b01_t (Or.inl c1)), rfl, rfl, rfl⟩
      | exact ⟨congrArg (fun v => some (Value.int v)) (b01_t (Or.inr (b01_n.mp c12))), rfl, rfl, rfl⟩
      | exact ⟨congrArg (fun v => some (Value.int v)) (b01_f (fun h => h.elim c1 (b01_0.mp c12))), rfl, rfl, rfl⟩
  · refine V_aload_n dX8_isAsked_4 rfl ?_
    refine V_iload_n dX8_isAsked_5 rfl ?_
    refine V_bipush (v := 10) dX8_isAsked_6 rfl ?_
    refine V_isub dX8_isAsked_8 ?_
    refine V_callV (ci := 8) (qX8_isPerson _ _ _ hR hn _) dX8_isAsked_9 mlX8_169 mtX8_isPerson ivX8_isPerson rfl rfl ⟨by omega, by omega⟩ (by decide) rfl rfl (by decide) (Nat.le_of_ble_eq_true rfl) rfl rfl ?_
    rintro _ _ _ _ ⟨rfl, rfl, rfl, rfl⟩
    simp only [leSub hN (by omega)]
    refine V_if_eq (tgt := 19) dX8_isAsked_12 (by decide) (fun c12 => ?_) (fun c12 => ?_)
    · refine V_iconst (v := 0) dX8_isAsked_19 rfl ?_
      refine V_iret dX8_isAsked_20 rfl rfl ?_
      first
        | exact ⟨congrArg (fun v => some (Value.int v)) (b01_t (Or.inl c1)), rfl, rfl, rfl⟩
        | exact ⟨congrArg (fun v => some (Value.int v)) (b01_t (Or.inr (b01_n.mp c12))), rfl, rfl, rfl⟩
        | exact ⟨congrArg (fun v => some (Value.int v)) (b01_f (fun h => h.elim c1 (b01_0.mp c12))), rfl, rfl, rfl⟩
    · refine V_iconst (v := 1) dX8_isAsked_15 rfl ?_
      refine V_goto (tgt := 20) dX8_isAsked_16 (by decide) ?_
      refine V_iret dX8_isAsked_20 rfl rfl ?_
      first
        | exact ⟨congrArg (fun v => some (Value.int v)) (b01_t (Or.inl c1)), rfl, rfl, rfl⟩
        | exact ⟨congrArg (fun v => some (Value.int v)) (b01_t (Or.inr (b01_n.mp c12))), rfl, rfl, rfl⟩
        | exact ⟨congrArg (fun v => some (Value.int v)) (b01_f (fun h => h.elim c1 (b01_0.mp c12))), rfl, rfl, rfl⟩
set_option maxRecDepth 4000 in
theorem qX8_seatOf (n : Nat) (mi : MI) (mr : MR) (hR : RF mr) (hn : 186 ≤ n) (N : Nat) (hN6 : N ≤ 6) (z : Cand) (hbs : BSm N mi (some z)) (x : Int32) (k : Nat) (k1 : (x - 10).toInt = (k : Int)) (k2 : k < N)  : Ct KX8_seatOf 1 0 0 [.ref 173, .int x] n mi mr (eqQ (some (.int (if z.2.2 k = 0 then -5 else nI (z.2.2 k) - 1))) n mi mr) := by
  refine Ct.of2 [some (.ref 173), some (.int x)] (by decide +kernel) (Nat.le_of_ble_eq_true rfl) rfl ?_
  refine V_aload_n dX8_seatOf_0 rfl ?_
  refine V_getr (b := 182) 8 15 dX8_seatOf_1 (Or.inl lkX8_37) rfl rfl ⟨by omega, by omega⟩ (hR _ _ _ rfl) ?_
  refine V_iload_n dX8_seatOf_4 rfl ?_
  refine V_bipush (v := 10) dX8_seatOf_5 rfl ?_
  refine V_isub dX8_seatOf_7 ?_
  refine V_iald (len := 6) k dX8_seatOf_8 rfl ⟨by omega, by omega⟩ k1 (by omega) ?_
  refine V_if_ne (tgt := 17) dX8_seatOf_9 (by decide) (fun c9 => ?_) (fun c9 => ?_)
  · refine V_aload_n dX8_seatOf_17 rfl ?_
    refine V_getr (b := 182) 8 15 dX8_seatOf_18 (Or.inl lkX8_37) rfl rfl ⟨by omega, by omega⟩ (hR _ _ _ rfl) ?_
    refine V_iload_n dX8_seatOf_21 rfl ?_
    refine V_bipush (v := 10) dX8_seatOf_22 rfl ?_
    refine V_isub dX8_seatOf_24 ?_
    refine V_iald (len := 6) k dX8_seatOf_25 rfl ⟨by omega, by omega⟩ k1 (by omega) ?_
    refine V_iconst (v := 1) dX8_seatOf_26 rfl ?_
    refine V_isub dX8_seatOf_27 ?_
    refine V_iret dX8_seatOf_28 rfl rfl ?_
    have hk := hbs.2.2 k k2
    refine ⟨?_, rfl, rfl, rfl⟩
    first
      | (have h0 : ¬ z.2.2 k = 0 := fun e => c9 (by rw [← Int32.toInt_inj, hk, e]; rfl)
         rw [if_neg h0, ← nI_of_toInt hk])
      | (have h0 : z.2.2 k = 0 := by
           rw [c9] at hk
           simp only [Int32.reduceToInt] at hk
           omega
         rw [if_pos h0])
  · refine V_bipush (v := -5) dX8_seatOf_12 rfl ?_
    refine V_goto (tgt := 28) dX8_seatOf_14 (by decide) ?_
    refine V_iret dX8_seatOf_28 rfl rfl ?_
    have hk := hbs.2.2 k k2
    refine ⟨?_, rfl, rfl, rfl⟩
    first
      | (have h0 : ¬ z.2.2 k = 0 := fun e => c9 (by rw [← Int32.toInt_inj, hk, e]; rfl)
         rw [if_neg h0, ← nI_of_toInt hk])
      | (have h0 : z.2.2 k = 0 := by
           rw [c9] at hk
           simp only [Int32.reduceToInt] at hk
           omega
         rw [if_pos h0])
set_option maxRecDepth 4000 in
theorem qX8_fewest (n : Nat) (mi : MI) (mr : MR) (c : CT) (hR : RF mr) (hn : 186 ≤ n) (hBD : BD (mi 174) c) (nc : Nat) (e : Nat → Nat) (s nv : Nat → Int32) (b : Nat) (hMV : MV (mi 174) nc e s nv b) (set x : Int32) : Ct KX8_fewest 12 0 0 [.ref 173, .int set, .int x] n mi mr (offQ (some (.int (sFewest (mi 174) c nc e s nv set x))) n mi mr scrM) := by
  refine Ct.of2 [some (.ref 173), some (.int set), some (.int x)] (by decide +kernel) (Nat.le_of_ble_eq_true rfl) rfl ?_
  obtain ⟨⟨hN, hN6⟩, ⟨hW, hW5⟩, ⟨hL, hL5⟩, ⟨hT, hT100⟩, ⟨hS, hS5⟩, ⟨hP, hP8⟩, ⟨hBk, hB8⟩⟩ := hBD.1
  refine V_aload_n dX8_fewest_0 rfl ?_
  refine V_iload_n dX8_fewest_1 rfl ?_
  refine V_callV (ci := 8) (qX8_isAsked _ _ _ hR hn c hBD _) dX8_fewest_2 mlX8_231 mtX8_isAsked ivX8_isAsked rfl rfl ⟨by omega, by omega⟩ (by decide) rfl rfl (by decide) (Nat.le_of_ble_eq_true rfl) rfl rfl ?_
  rintro _ _ _ _ ⟨rfl, rfl, rfl, rfl⟩
  refine V_if_ne (tgt := 10) dX8_fewest_5 (by decide) (fun c5 => ?_) (fun c5 => ?_)
  · have hask := (ask_m hBD.1).mp (b01_n.mp c5)
    refine V_iload_n dX8_fewest_10 rfl ?_
    refine V_iconst (v := 0) dX8_fewest_11 rfl ?_
    refine V_aload_n dX8_fewest_12 rfl ?_
    refine V_callV (ci := 8) (qX8_everybody _ _ _ hR hn) dX8_fewest_13 mlX8_234 mtX8_everybody ivX8_everybody rfl rfl ⟨by omega, by omega⟩ (by decide) rfl rfl (by decide) (Nat.le_of_ble_eq_true rfl) rfl rfl ?_
    rintro _ _ _ _ ⟨rfl, rfl, rfl, rfl⟩
    refine V_callS (qX8_in _ _ _ _ _ _) dX8_fewest_16 mlX8_53 mtX8_in smX8_in rfl rfl (by decide) (Nat.le_of_ble_eq_true rfl) rfl rfl ?_
    rintro _ _ _ _ ⟨rfl, rfl, rfl, rfl⟩
    refine V_if_ne (tgt := 25) dX8_fewest_19 (by decide) (fun c19 => ?_) (fun c19 => ?_)
    · have hin := (set_m hBD.1).mp (b01_n.mp c19)
      refine V_aload_n dX8_fewest_25 rfl ?_
      refine V_iconst (v := 0) dX8_fewest_26 rfl ?_
      refine V_iload_n dX8_fewest_27 rfl ?_
      refine V_callV (ci := 8) (qX8_looksForSeating n mi mr c hR hn hBD nc e s nv b hMV 0 (by decide) _ set rfl) dX8_fewest_28 mlX8_237 mtX8_looksForSeating ivX8_looksForSeating rfl rfl ⟨by omega, by omega⟩ (by decide) rfl rfl (by decide) (Nat.le_of_ble_eq_true rfl) rfl rfl ?_
      rintro _ _ m9 _ ⟨rfl, rfl, rfl, ho9, hb9⟩
      rw [rBest_q (by decide)] at hb9
      refine V_aload_n dX8_fewest_31 rfl ?_
      refine V_geti 8 20 dX8_fewest_32 (Or.inl lkX8_213) rfl rfl ⟨by omega, by omega⟩ ?_
      refine V_iconst (v := -1) dX8_fewest_35 rfl ?_
      refine V_icmp_ne (tgt := 44) dX8_fewest_36 (by decide) (fun c36 => ?_) (fun c36 => ?_)
      · obtain ⟨z, hz⟩ : ∃ z, qBest (mi 174) c nc e s nv 0 set = some z := by
          cases eb : qBest (mi 174) c nc e s nv 0 set with
          | some z => exact ⟨z, rfl⟩
          | none =>
            rw [eb] at hb9
            exact absurd hb9 c36
        rw [hz] at hb9
        refine V_iload_n dX8_fewest_44 rfl ?_
        refine V_if_ne (tgt := 55) dX8_fewest_45 (by decide) (fun c45 => ?_) (fun c45 => ?_)
        · refine V_aload_n dX8_fewest_55 rfl ?_
          refine V_iload_n dX8_fewest_56 rfl ?_
          have h10 : 10 ≤ x := (hask.resolve_left c45).1
          obtain ⟨k, k1, k2⟩ := ten h10 ((ask_ok hBD.1 hask).resolve_left c45).2 (by omega)
          refine V_callV (ci := 8) (qX8_seatOf n m9 mr hR hn (cN c) hN6 z hb9 x k k1 k2) dX8_fewest_57 mlX8_240 mtX8_seatOf ivX8_seatOf rfl rfl ⟨by omega, by omega⟩ (by decide) rfl rfl (by decide) (Nat.le_of_ble_eq_true rfl) rfl rfl ?_
          rintro _ _ _ _ ⟨rfl, rfl, rfl, rfl⟩
          refine V_iret dX8_fewest_60 rfl rfl ?_
          first
            | (refine ⟨?_, rfl, rfl, ho9⟩
               unfold sFewest
               have hnone : qBest (mi 174) c nc e s nv 0 set = none := by
                 cases eb : qBest (mi 174) c nc e s nv 0 set with
                 | none => rfl
                 | some z =>
                   rw [eb] at hb9
                   have q := hb9.1
                   rw [c36] at q
                   simp only [Int32.reduceToInt] at q
                   omega
               rw [if_pos (show x = 0 ∨ (10 ≤ x ∧ x - 10 < mi 174 12) from hask), if_pos hin, hnone]
               rfl)
            | (refine ⟨?_, rfl, rfl, ho9⟩
               unfold sFewest
               rw [if_pos (show x = 0 ∨ (10 ≤ x ∧ x - 10 < mi 174 12) from hask), if_pos hin, hz]
               show some (Value.int (if 10 ≤ x then _ else _)) = _
               first
                 | (have hx0 : x = 0 := c45
                    rw [if_neg (by rw [hx0]; decide)]
                    rw [if_pos rfl, ← nI_of_toInt hb9.1])
                 | (rw [if_pos h10, nat_of_toInt k1]))
        · refine V_aload_n dX8_fewest_48 rfl ?_
          refine V_geti 8 20 dX8_fewest_49 (Or.inl lkX8_213) rfl rfl ⟨by omega, by omega⟩ ?_
          refine V_goto (tgt := 60) dX8_fewest_52 (by decide) ?_
          refine V_iret dX8_fewest_60 rfl rfl ?_
          first
            | (refine ⟨?_, rfl, rfl, ho9⟩
               unfold sFewest
               have hnone : qBest (mi 174) c nc e s nv 0 set = none := by
                 cases eb : qBest (mi 174) c nc e s nv 0 set with
                 | none => rfl
                 | some z =>
                   rw [eb] at hb9
                   have q := hb9.1
                   rw [c36] at q
                   simp only [Int32.reduceToInt] at q
                   omega
               rw [if_pos (show x = 0 ∨ (10 ≤ x ∧ x - 10 < mi 174 12) from hask), if_pos hin, hnone]
               rfl)
            | (refine ⟨?_, rfl, rfl, ho9⟩
               unfold sFewest
               rw [if_pos (show x = 0 ∨ (10 ≤ x ∧ x - 10 < mi 174 12) from hask), if_pos hin, hz]
               show some (Value.int (if 10 ≤ x then _ else _)) = _
               first
                 | (have hx0 : x = 0 := c45
                    rw [if_neg (by rw [hx0]; decide)]
                    rw [if_pos rfl, ← nI_of_toInt hb9.1])
                 | (rw [if_pos h10, nat_of_toInt k1]))
      · refine V_bipush (v := -6) dX8_fewest_39 rfl ?_
        refine V_goto (tgt := 60) dX8_fewest_41 (by decide) ?_
        refine V_iret dX8_fewest_60 rfl rfl ?_
        first
          | (refine ⟨?_, rfl, rfl, ho9⟩
             unfold sFewest
             have hnone : qBest (mi 174) c nc e s nv 0 set = none := by
               cases eb : qBest (mi 174) c nc e s nv 0 set with
               | none => rfl
               | some z =>
                 rw [eb] at hb9
                 have q := hb9.1
                 rw [c36] at q
                 simp only [Int32.reduceToInt] at q
                 omega
             rw [if_pos (show x = 0 ∨ (10 ≤ x ∧ x - 10 < mi 174 12) from hask), if_pos hin, hnone]
             rfl)
          | (refine ⟨?_, rfl, rfl, ho9⟩
             unfold sFewest
             rw [if_pos (show x = 0 ∨ (10 ≤ x ∧ x - 10 < mi 174 12) from hask), if_pos hin, hz]
             show some (Value.int (if 10 ≤ x then _ else _)) = _
             first
               | (have hx0 : x = 0 := c45
                  rw [if_neg (by rw [hx0]; decide)]
                  rw [if_pos rfl, ← nI_of_toInt hb9.1])
               | (rw [if_pos h10, nat_of_toInt k1]))
    · refine V_bipush (v := -2) dX8_fewest_22 rfl ?_
      refine V_iret dX8_fewest_24 rfl rfl ?_
      refine ⟨?_, rfl, rfl, Off.rf⟩
      unfold sFewest
      rw [if_pos (show x = 0 ∨ (10 ≤ x ∧ x - 10 < mi 174 12) from hask), if_neg (fun h => b01_0.mp c19 ((set_m hBD.1).mpr h))]
  · refine V_iconst (v := -1) dX8_fewest_8 rfl ?_
    refine V_iret dX8_fewest_9 rfl rfl ?_
    refine ⟨?_, rfl, rfl, Off.rf⟩
    unfold sFewest
    rw [if_neg (show ¬ (x = 0 ∨ (10 ≤ x ∧ x - 10 < mi 174 12)) from fun h => b01_0.mp c5 ((ask_m hBD.1).mpr h))]
set_option maxRecDepth 4000 in
theorem qX8_close (n : Nat) (mi : MI) (mr : MR) (c : CT) (hR : RF mr) (hn : 186 ≤ n) (hBD : BD (mi 174) c) (nc : Nat) (e : Nat → Nat) (s nv : Nat → Int32) (b : Nat) (hMV : MV (mi 174) nc e s nv b) (x : Int32) : Ct KX8_close 12 0 0 [.ref 173, .int x] n mi mr (offQ (some (.int (sClose (mi 174) c nc e s nv x))) n mi mr scrM) := by
  refine Ct.of2 [some (.ref 173), some (.int x)] (by decide +kernel) (Nat.le_of_ble_eq_true rfl) rfl ?_
  obtain ⟨⟨hN, hN6⟩, ⟨hW, hW5⟩, ⟨hL, hL5⟩, ⟨hT, hT100⟩, ⟨hS, hS5⟩, ⟨hP, hP8⟩, ⟨hBk, hB8⟩⟩ := hBD.1
  refine V_aload_n dX8_close_0 rfl ?_
  refine V_iload_n dX8_close_1 rfl ?_
  refine V_callV (ci := 8) (qX8_isAsked _ _ _ hR hn c hBD _) dX8_close_2 mlX8_231 mtX8_isAsked ivX8_isAsked rfl rfl ⟨by omega, by omega⟩ (by decide) rfl rfl (by decide) (Nat.le_of_ble_eq_true rfl) rfl rfl ?_
  rintro _ _ _ _ ⟨rfl, rfl, rfl, rfl⟩
  refine V_if_ne (tgt := 10) dX8_close_5 (by decide) (fun c5 => ?_) (fun c5 => ?_)
  · have hask := (ask_m hBD.1).mp (b01_n.mp c5)
    refine V_aload_n dX8_close_10 rfl ?_
    refine V_iconst (v := 1) dX8_close_11 rfl ?_
    refine V_aload_n dX8_close_12 rfl ?_
    refine V_callV (ci := 8) (qX8_everybody _ _ _ hR hn) dX8_close_13 mlX8_234 mtX8_everybody ivX8_everybody rfl rfl ⟨by omega, by omega⟩ (by decide) rfl rfl (by decide) (Nat.le_of_ble_eq_true rfl) rfl rfl ?_
    rintro _ _ _ _ ⟨rfl, rfl, rfl, rfl⟩
    refine V_callV (ci := 8) (qX8_looksForSeating n mi mr c hR hn hBD nc e s nv b hMV 1 (by decide) _ _ rfl) dX8_close_16 mlX8_237 mtX8_looksForSeating ivX8_looksForSeating rfl rfl ⟨by omega, by omega⟩ (by decide) rfl rfl (by decide) (Nat.le_of_ble_eq_true rfl) rfl rfl ?_
    rintro _ _ m9 _ ⟨rfl, rfl, rfl, ho9, hb9⟩
    rw [rBest_1 hBD.1] at hb9
    refine V_aload_n dX8_close_19 rfl ?_
    refine V_geti 8 20 dX8_close_20 (Or.inl lkX8_213) rfl rfl ⟨by omega, by omega⟩ ?_
    refine V_iconst (v := -1) dX8_close_23 rfl ?_
    refine V_icmp_ne (tgt := 32) dX8_close_24 (by decide) (fun c24 => ?_) (fun c24 => ?_)
    · obtain ⟨z, hz⟩ : ∃ z, qBest (mi 174) c nc e s nv 1 0 = some z := by
        cases eb : qBest (mi 174) c nc e s nv 1 0 with
        | some z => exact ⟨z, rfl⟩
        | none =>
          rw [eb] at hb9
          exact absurd hb9 c24
      rw [hz] at hb9
      have hzb : -2147483648 < -z.1 ∧ -z.1 < 2147483648 := by
        have hin : z ∈ lvs (qF (mi 174) 1 0) (cCost 1 (cN c) (qA (mi 174)) (qB (mi 174) nc e s nv 1)) (cW c) (cN c) 0 (qL (mi 174)) qZ 0 := fdB_in hz
        rw [lvs_cost hin]
        have := cost_bd (sort := 1) (qAB_ok (sort := 1) hBD hMV) hN6 (fun q hq => (lvs_ok hin q (Nat.zero_le _) (by omega)).1)
        omega
      refine V_iload_n dX8_close_32 rfl ?_
      refine V_if_ne (tgt := 44) dX8_close_33 (by decide) (fun c33 => ?_) (fun c33 => ?_)
      · refine V_aload_n dX8_close_44 rfl ?_
        refine V_iload_n dX8_close_45 rfl ?_
        have h10 : 10 ≤ x := (hask.resolve_left c33).1
        obtain ⟨k, k1, k2⟩ := ten h10 ((ask_ok hBD.1 hask).resolve_left c33).2 (by omega)
        refine V_callV (ci := 8) (qX8_seatOf n m9 mr hR hn (cN c) hN6 z hb9 x k k1 k2) dX8_close_46 mlX8_240 mtX8_seatOf ivX8_seatOf rfl rfl ⟨by omega, by omega⟩ (by decide) rfl rfl (by decide) (Nat.le_of_ble_eq_true rfl) rfl rfl ?_
        rintro _ _ _ _ ⟨rfl, rfl, rfl, rfl⟩
        refine V_iret dX8_close_49 rfl rfl ?_
        first
          | (refine ⟨?_, rfl, rfl, ho9⟩
             unfold sClose
             have hnone : qBest (mi 174) c nc e s nv 1 0 = none := by
               cases eb : qBest (mi 174) c nc e s nv 1 0 with
               | none => rfl
               | some z =>
                 rw [eb] at hb9
                 have q := hb9.1
                 rw [c24] at q
                 simp only [Int32.reduceToInt] at q
                 omega
             rw [if_pos (show x = 0 ∨ (10 ≤ x ∧ x - 10 < mi 174 12) from hask), hnone]
             rfl)
          | (refine ⟨?_, rfl, rfl, ho9⟩
             unfold sClose
             rw [if_pos (show x = 0 ∨ (10 ≤ x ∧ x - 10 < mi 174 12) from hask), hz]
             show some (Value.int (if 10 ≤ x then _ else _)) = _
             first
               | (have hx0 : x = 0 := c33
                  rw [if_neg (by rw [hx0]; decide)]
                  rw [if_neg (by decide), if_pos rfl]
                  have hlt := (m9 173 21).toInt_lt
                  have hge := (m9 173 21).le_toInt
                  have h3 := i_neg hb9.2.1 hzb
                  rw [Int.neg_neg] at h3
                  rw [← i_of h3])
               | (rw [if_pos h10, nat_of_toInt k1]))
      · refine V_aload_n dX8_close_36 rfl ?_
        refine V_geti 8 21 dX8_close_37 (Or.inl lkX8_216) rfl rfl ⟨by omega, by omega⟩ ?_
        refine V_ineg dX8_close_40 ?_
        refine V_goto (tgt := 49) dX8_close_41 (by decide) ?_
        refine V_iret dX8_close_49 rfl rfl ?_
        first
          | (refine ⟨?_, rfl, rfl, ho9⟩
             unfold sClose
             have hnone : qBest (mi 174) c nc e s nv 1 0 = none := by
               cases eb : qBest (mi 174) c nc e s nv 1 0 with
               | none => rfl
               | some z =>
                 rw [eb] at hb9
                 have q := hb9.1
                 rw [c24] at q
                 simp only [Int32.reduceToInt] at q
                 omega
             rw [if_pos (show x = 0 ∨ (10 ≤ x ∧ x - 10 < mi 174 12) from hask), hnone]
             rfl)
          | (refine ⟨?_, rfl, rfl, ho9⟩
             unfold sClose
             rw [if_pos (show x = 0 ∨ (10 ≤ x ∧ x - 10 < mi 174 12) from hask), hz]
             show some (Value.int (if 10 ≤ x then _ else _)) = _
             first
               | (have hx0 : x = 0 := c33
                  rw [if_neg (by rw [hx0]; decide)]
                  rw [if_neg (by decide), if_pos rfl]
                  have hlt := (m9 173 21).toInt_lt
                  have hge := (m9 173 21).le_toInt
                  have h3 := i_neg hb9.2.1 hzb
                  rw [Int.neg_neg] at h3
                  rw [← i_of h3])
               | (rw [if_pos h10, nat_of_toInt k1]))
    · refine V_bipush (v := -6) dX8_close_27 rfl ?_
      refine V_goto (tgt := 49) dX8_close_29 (by decide) ?_
      refine V_iret dX8_close_49 rfl rfl ?_
      first
        | (refine ⟨?_, rfl, rfl, ho9⟩
           unfold sClose
           have hnone : qBest (mi 174) c nc e s nv 1 0 = none := by
             cases eb : qBest (mi 174) c nc e s nv 1 0 with
             | none => rfl
             | some z =>
               rw [eb] at hb9
               have q := hb9.1
               rw [c24] at q
               simp only [Int32.reduceToInt] at q
               omega
           rw [if_pos (show x = 0 ∨ (10 ≤ x ∧ x - 10 < mi 174 12) from hask), hnone]
           rfl)
        | (refine ⟨?_, rfl, rfl, ho9⟩
           unfold sClose
           rw [if_pos (show x = 0 ∨ (10 ≤ x ∧ x - 10 < mi 174 12) from hask), hz]
           show some (Value.int (if 10 ≤ x then _ else _)) = _
           first
             | (have hx0 : x = 0 := c33
                rw [if_neg (by rw [hx0]; decide)]
                rw [if_neg (by decide), if_pos rfl]
                have hlt := (m9 173 21).toInt_lt
                have hge := (m9 173 21).le_toInt
                have h3 := i_neg hb9.2.1 hzb
                rw [Int.neg_neg] at h3
                rw [← i_of h3])
             | (rw [if_pos h10, nat_of_toInt k1]))
  · refine V_iconst (v := -1) dX8_close_8 rfl ?_
    refine V_iret dX8_close_9 rfl rfl ?_
    refine ⟨?_, rfl, rfl, Off.rf⟩
    unfold sClose
    rw [if_neg (show ¬ (x = 0 ∨ (10 ≤ x ∧ x - 10 < mi 174 12)) from fun h => b01_0.mp c5 ((ask_m hBD.1).mpr h))]
set_option maxRecDepth 4000 in
theorem qX8_boldest (n : Nat) (mi : MI) (mr : MR) (c : CT) (hR : RF mr) (hn : 186 ≤ n) (hBD : BD (mi 174) c) (nc : Nat) (e : Nat → Nat) (s nv : Nat → Int32) (b : Nat) (hMV : MV (mi 174) nc e s nv b) (x : Int32) : Ct KX8_boldest 12 0 0 [.ref 173, .int x] n mi mr (offQ (some (.int (sBold (mi 174) c nc e s nv x))) n mi mr scrM) := by
  refine Ct.of2 [some (.ref 173), some (.int x)] (by decide +kernel) (Nat.le_of_ble_eq_true rfl) rfl ?_
  obtain ⟨⟨hN, hN6⟩, ⟨hW, hW5⟩, ⟨hL, hL5⟩, ⟨hT, hT100⟩, ⟨hS, hS5⟩, ⟨hP, hP8⟩, ⟨hBk, hB8⟩⟩ := hBD.1
  refine V_aload_n dX8_boldest_0 rfl ?_
  refine V_iload_n dX8_boldest_1 rfl ?_
  refine V_callV (ci := 8) (qX8_isAsked _ _ _ hR hn c hBD _) dX8_boldest_2 mlX8_231 mtX8_isAsked ivX8_isAsked rfl rfl ⟨by omega, by omega⟩ (by decide) rfl rfl (by decide) (Nat.le_of_ble_eq_true rfl) rfl rfl ?_
  rintro _ _ _ _ ⟨rfl, rfl, rfl, rfl⟩
  refine V_if_ne (tgt := 10) dX8_boldest_5 (by decide) (fun c5 => ?_) (fun c5 => ?_)
  · have hask := (ask_m hBD.1).mp (b01_n.mp c5)
    refine V_aload_n dX8_boldest_10 rfl ?_
    refine V_iconst (v := 2) dX8_boldest_11 rfl ?_
    refine V_iconst (v := 0) dX8_boldest_12 rfl ?_
    refine V_callV (ci := 8) (qX8_looksForSeating n mi mr c hR hn hBD nc e s nv b hMV 2 (by decide) _ 0 rfl) dX8_boldest_13 mlX8_237 mtX8_looksForSeating ivX8_looksForSeating rfl rfl ⟨by omega, by omega⟩ (by decide) rfl rfl (by decide) (Nat.le_of_ble_eq_true rfl) rfl rfl ?_
    rintro _ _ m9 _ ⟨rfl, rfl, rfl, ho9, hb9⟩
    rw [rBest_q (by decide)] at hb9
    obtain ⟨z, hz⟩ := best_2 (nc := nc) (e := e) (s := s) (nv := nv) (set := 0) hBD.1
    rw [hz] at hb9
    refine V_iload_n dX8_boldest_16 rfl ?_
    refine V_if_ne (tgt := 27) dX8_boldest_17 (by decide) (fun c17 => ?_) (fun c17 => ?_)
    · refine V_aload_n dX8_boldest_27 rfl ?_
      refine V_iload_n dX8_boldest_28 rfl ?_
      have h10 : 10 ≤ x := (hask.resolve_left c17).1
      obtain ⟨k, k1, k2⟩ := ten h10 ((ask_ok hBD.1 hask).resolve_left c17).2 (by omega)
      refine V_callV (ci := 8) (qX8_seatOf n m9 mr hR hn (cN c) hN6 z hb9 x k k1 k2) dX8_boldest_29 mlX8_240 mtX8_seatOf ivX8_seatOf rfl rfl ⟨by omega, by omega⟩ (by decide) rfl rfl (by decide) (Nat.le_of_ble_eq_true rfl) rfl rfl ?_
      rintro _ _ _ _ ⟨rfl, rfl, rfl, rfl⟩
      refine V_iret dX8_boldest_32 rfl rfl ?_
      refine ⟨?_, rfl, rfl, ho9⟩
      unfold sBold
      rw [if_pos (show x = 0 ∨ (10 ≤ x ∧ x - 10 < mi 174 12) from hask), hz]
      show some (Value.int (if 10 ≤ x then _ else _)) = _
      first
        | (have hx0 : x = 0 := c17
           rw [if_neg (by rw [hx0]; decide)]
           rw [if_neg (by decide), if_neg (by decide), ← i_of hb9.2.1])
        | (rw [if_pos h10, nat_of_toInt k1])
    · refine V_aload_n dX8_boldest_20 rfl ?_
      refine V_geti 8 21 dX8_boldest_21 (Or.inl lkX8_216) rfl rfl ⟨by omega, by omega⟩ ?_
      refine V_goto (tgt := 32) dX8_boldest_24 (by decide) ?_
      refine V_iret dX8_boldest_32 rfl rfl ?_
      refine ⟨?_, rfl, rfl, ho9⟩
      unfold sBold
      rw [if_pos (show x = 0 ∨ (10 ≤ x ∧ x - 10 < mi 174 12) from hask), hz]
      show some (Value.int (if 10 ≤ x then _ else _)) = _
      first
        | (have hx0 : x = 0 := c17
           rw [if_neg (by rw [hx0]; decide)]
           rw [if_neg (by decide), if_neg (by decide), ← i_of hb9.2.1])
        | (rw [if_pos h10, nat_of_toInt k1])
  · refine V_iconst (v := -1) dX8_boldest_8 rfl ?_
    refine V_iret dX8_boldest_9 rfl rfl ?_
    refine ⟨?_, rfl, rfl, Off.rf⟩
    unfold sBold
    rw [if_neg (show ¬ (x = 0 ∨ (10 ≤ x ∧ x - 10 < mi 174 12)) from fun h => b01_0.mp c5 ((ask_m hBD.1).mpr h))]
