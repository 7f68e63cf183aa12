theorem V_ldcw {K : KT} {d cl sl : Nat} {Q : QT} {pc : Nat} {L : List (Option Value)} {st : List Value} {n : Nat} {mi : MI} {mr : MR} {i : Nat} {v : Int32} (hd : decode K.2.1 pc = .ok (.ldc_w i, 3)) (hw : Jvm.Cond.constant K.1.cls i v ∈ TBL) (k : V K d cl sl Q (pc + 3) L (.int v :: st) n mi mr) : V K d cl sl Q pc L st n mi mr := by
  intro G p l e R s m args below meth c Z mc ms C hR H locs cells slots ls hH hS hc hs hl
  exact lv_ldcw C.1 C.2.1 C.2.2.2.1 (C.2.2.2.2.1 _ hw) hd (k G p l e R s m args below meth c Z mc ms C hR H locs cells slots ls hH hS hc hs hl)
theorem V_i2b {K : KT} {d cl sl : Nat} {Q : QT} {pc : Nat} {L : List (Option Value)} {st : List Value} {n : Nat} {mi : MI} {mr : MR} {x : Int32} (hd : decode K.2.1 pc = .ok (.i2b, 1)) (k : V K d cl sl Q (pc + 1) L (.int x.toInt8.toInt32 :: st) n mi mr) : V K d cl sl Q pc L (.int x :: st) n mi mr := by
  intro G p l e R s m args below meth c Z mc ms C hR H locs cells slots ls hH hS hc hs hl
  exact lv_i2b C.1 C.2.1 hd rfl (k G p l e R s m args below meth c Z mc ms C hR H locs cells slots ls hH hS hc hs hl)
set_option maxRecDepth 4000 in
theorem qJ6_bitCount (n : Nat) (mi : MI) (mr : MR) (x : Int32) (hx : ∃ k : Fin 64, x = nI k.1)  : Ct KJ6_bitCount_0f7a4 1 0 0 [.int x] n mi mr (eqQ (some (.int (bitCnt x 6))) n mi mr) := by
  refine Ct.of2 [some (.int x)] (by decide +kernel) (Nat.le_of_ble_eq_true rfl) rfl ?_
  refine V_iload_n dJ6_bitCount_0f7a4_0 rfl ?_
  refine V_iload_n dJ6_bitCount_0f7a4_1 rfl ?_
  refine V_iconst (v := 1) dJ6_bitCount_0f7a4_2 rfl ?_
  refine V_iushr dJ6_bitCount_0f7a4_3 ?_
  refine V_ldcw dJ6_bitCount_0f7a4_4 kJ6_265 ?_
  refine V_iand dJ6_bitCount_0f7a4_7 ?_
  refine V_isub dJ6_bitCount_0f7a4_8 ?_
  refine V_istore_n (L' := [_]) dJ6_bitCount_0f7a4_9 (by decide) rfl rfl ?_
  refine V_iload_n dJ6_bitCount_0f7a4_10 rfl ?_
  refine V_ldcw dJ6_bitCount_0f7a4_11 kJ6_266 ?_
  refine V_iand dJ6_bitCount_0f7a4_14 ?_
  refine V_iload_n dJ6_bitCount_0f7a4_15 rfl ?_
  refine V_iconst (v := 2) dJ6_bitCount_0f7a4_16 rfl ?_
  refine V_iushr dJ6_bitCount_0f7a4_17 ?_
  refine V_ldcw dJ6_bitCount_0f7a4_18 kJ6_266 ?_
  refine V_iand dJ6_bitCount_0f7a4_21 ?_
  refine V_iadd dJ6_bitCount_0f7a4_22 ?_
  refine V_istore_n (L' := [_]) dJ6_bitCount_0f7a4_23 (by decide) rfl rfl ?_
  refine V_iload_n dJ6_bitCount_0f7a4_24 rfl ?_
  refine V_iload_n dJ6_bitCount_0f7a4_25 rfl ?_
  refine V_iconst (v := 4) dJ6_bitCount_0f7a4_26 rfl ?_
  refine V_iushr dJ6_bitCount_0f7a4_27 ?_
  refine V_iadd dJ6_bitCount_0f7a4_28 ?_
  refine V_ldcw dJ6_bitCount_0f7a4_29 kJ6_267 ?_
  refine V_iand dJ6_bitCount_0f7a4_32 ?_
  refine V_istore_n (L' := [_]) dJ6_bitCount_0f7a4_33 (by decide) rfl rfl ?_
  refine V_iload_n dJ6_bitCount_0f7a4_34 rfl ?_
  refine V_iload_n dJ6_bitCount_0f7a4_35 rfl ?_
  refine V_bipush (v := 8) dJ6_bitCount_0f7a4_36 rfl ?_
  refine V_iushr dJ6_bitCount_0f7a4_38 ?_
  refine V_iadd dJ6_bitCount_0f7a4_39 ?_
  refine V_istore_n (L' := [_]) dJ6_bitCount_0f7a4_40 (by decide) rfl rfl ?_
  refine V_iload_n dJ6_bitCount_0f7a4_41 rfl ?_
  refine V_iload_n dJ6_bitCount_0f7a4_42 rfl ?_
  refine V_bipush (v := 16) dJ6_bitCount_0f7a4_43 rfl ?_
  refine V_iushr dJ6_bitCount_0f7a4_45 ?_
  refine V_iadd dJ6_bitCount_0f7a4_46 ?_
  refine V_istore_n (L' := [_]) dJ6_bitCount_0f7a4_47 (by decide) rfl rfl ?_
  refine V_iload_n dJ6_bitCount_0f7a4_48 rfl ?_
  refine V_bipush (v := 63) dJ6_bitCount_0f7a4_49 rfl ?_
  refine V_iand dJ6_bitCount_0f7a4_51 ?_
  refine V_iret dJ6_bitCount_0f7a4_52 rfl rfl ?_
  refine ⟨?_, rfl, rfl, rfl⟩
  obtain ⟨k, rfl⟩ := hx
  refine congrArg (fun z => some (Value.int z)) ?_
  revert k
  decide +kernel
theorem up2_upS {mi : MI} {k : Nat} {x : Int32} : up2 mi 174 k x 174 = upS (mi 174) k x := by
  funext j
  simp only [up2, upS, true_and]
def dawnS (S : Nat → Int32) (N : Nat) : Nat → Int32 := fun k => if k = 0 then S 0 + 1 else if k ≤ N then -1 else S k
theorem dawnM_row {mi : MI} {N : Nat} : dawnM mi N 174 = dawnS (mi 174) N := by
  funext k
  unfold dawnM dawnS
  simp only [up2, true_and]
  by_cases h : k = 0
  · rw [if_pos h, if_pos h]
  · rw [if_neg h, if_neg h]
    by_cases h2 : k ≤ N
    · rw [if_pos h2]
      obtain ⟨p, rfl⟩ : ∃ p, k = 1 + p := ⟨k - 1, by omega⟩
      exact dryM_has (by omega)
    · rw [if_neg h2]
      exact dryM_off (by omega)
/-- one step of a night that is planned in P -/
def doS (S P : Nat → Int32) (N j : Nat) : Nat → Int32 := if P (83 + j) = 0 then dawnS S N else if P (83 + j) = 1 then (if S (7 + (P (99 + j)).toNatClampNeg) = 0 then S else upS (upS S (7 + (P (99 + j)).toNatClampNeg) (S (7 + (P (99 + j)).toNatClampNeg) - 1)) (1 + (P (91 + j)).toNatClampNeg) (P (99 + j))) else upS S (1 + (P (91 + j)).toNatClampNeg) (-1)
def nightS (S : Nat → Int32) (N : Nat) : Nat → Nat → Int32
  | 0 => S
  | j + 1 => doS (nightS S N j) S N j
theorem okAtY.has {u : Nat} {c : CT} {p : Nat} {x : Int32} (hp : p < 6) (h : hasIn x (cW c)) : okAtY u c (1 + p) x := by
  unfold okAtY
  refine ⟨?_, fun _ _ => h, ?_, ?_, ?_, ?_, ?_, ?_, ?_, ?_, ?_, ?_, ?_, ?_⟩ <;> (intros; omega)
theorem okAtY.bot {u : Nat} {c : CT} {v : Nat} {x : Int32} (hv : v < 5) (h : natTo x 100) : okAtY u c (7 + v) x := by
  unfold okAtY
  refine ⟨?_, ?_, fun _ _ => h, ?_, ?_, ?_, ?_, ?_, ?_, ?_, ?_, ?_, ?_, ?_⟩ <;> (intros; omega)
theorem BDy.put {u : Nat} {S : Nat → Int32} {c : CT} {a : Nat} {x : Int32} (h : BDy u S c) (hx : okAtY u c a x) : BDy u (upS S a x) c := by
  refine h.set (a := a) (fun k hk => ?_) ?_
  · exact if_neg hk
  · unfold upS
    rw [if_pos rfl]
    exact hx
theorem BDy.dawn {u : Nat} {S : Nat → Int32} {c : CT} (h : BDy u S c) (hu : u < 5000) : BDy (u + 1) (dawnS S (cN c)) c := by
  have hN := h.1.1.2
  have hi : ∀ k, cN c < k → dawnS S (cN c) k = S k := fun k hk => by
    unfold dawnS
    rw [if_neg (by omega), if_neg (by omega)]
  obtain ⟨⟨⟨a1, a1'⟩, ⟨a2, a2'⟩, ⟨a3, a3'⟩, ⟨a4, a4'⟩, ⟨a5, a5'⟩, ⟨a6, a6'⟩, ⟨a7, a7'⟩⟩, ⟨y, y1, y2, y3⟩, h3, h4, h5, h6, h7, h8, h9⟩ := h
  refine ⟨⟨⟨?_, a1'⟩, ⟨?_, a2'⟩, ⟨?_, a3'⟩, ⟨?_, a4'⟩, ⟨?_, a5'⟩, ⟨?_, a6'⟩, ⟨?_, a7'⟩⟩, ?_, ?_, ?_, ?_, ?_, ?_, ?_, ?_⟩
  · rw [hi 12 (by omega)]; exact a1
  · rw [hi 19 (by omega)]; exact a2
  · rw [hi 13 (by omega)]; exact a3
  · rw [hi 17 (by omega)]; exact a4
  · rw [hi 14 (by omega)]; exact a5
  · rw [hi 15 (by omega)]; exact a6
  · rw [hi 16 (by omega)]; exact a7
  · exact ⟨y + 1, ix_add y1 (by decide) (by omega), by omega, by omega⟩
  · rw [hi 18 (by omega)]; exact h3
  · intro p hp
    obtain ⟨q1, q2, q3, q4, q5, q6⟩ := h4 p hp
    refine ⟨?_, ?_, ?_, ?_, ?_, fun k hk => ?_⟩
    · rw [hi _ (by omega)]; exact q1
    · rw [hi _ (by omega)]; exact q2
    · rw [hi _ (by omega)]; exact q3
    · rw [hi _ (by omega)]; exact q4
    · refine Or.inl ?_
      unfold dawnS
      rw [if_neg (by omega), if_pos (by omega)]
    · rw [hi _ (by omega)]; exact q6 k hk
  · intro k hk
    rw [hi _ (by omega), hi _ (by omega)]
    exact h5 k hk
  · intro j hj
    rw [hi _ (by omega)]
    exact h6 j hj
  · intro j hj
    rw [hi _ (by omega), hi _ (by omega), hi _ (by omega)]
    exact h7 j hj
  · intro j hj
    rw [hi _ (by omega)]
    exact h8 j hj
  · intro j hj
    rw [hi _ (by omega)]
    exact h9 j hj
/-- the plan's j-th row, by its places -/
theorem plan_cases {u : Nat} {S : Nat → Int32} {c : CT} (h : BDy u S c) {j : Nat} (hj : j < cP c) : S (83 + j) = 0 ∨ (¬ S (83 + j) = 0 ∧ ∃ p, (S (91 + j)).toInt = ((p : Nat) : Int) ∧ p < cN c ∧ (¬ S (83 + j) = 1 ∨ (S (83 + j) = 1 ∧ ∃ v, (S (99 + j)).toInt = ((v : Nat) : Int) ∧ v < cW c))) := by
  by_cases e : S (83 + j) = 0
  · exact Or.inl e
  · obtain ⟨⟨p, p1, p2⟩, q⟩ := (h.2.2.2.2.2.2.1 j hj).resolve_left e
    refine Or.inr ⟨e, p, p1, p2, ?_⟩
    by_cases e1 : S (83 + j) = 1
    · obtain ⟨v, v1, v2⟩ := q e1
      exact Or.inr ⟨e1, v, v1, v2⟩
    · exact Or.inl e1
theorem doS_hi {u : Nat} {S P : Nat → Int32} {c : CT} (h : BDy u P c) {j : Nat} (hj : j < cP c) {k : Nat} (hk : 12 ≤ k) : doS S P (cN c) j k = S k := by
  have hN := h.1.1.2
  have hW := h.1.2.1.2
  unfold doS
  rcases plan_cases h hj with e | ⟨e, p, p1, p2, e1 | ⟨e1, v, v1, v2⟩⟩
  · rw [if_pos e]
    unfold dawnS
    rw [if_neg (by omega), if_neg (by omega)]
  · rw [if_neg e, if_neg e1, nat_of_toInt p1]
    exact if_neg (by omega)
  · rw [if_neg e, if_pos e1, nat_of_toInt p1, nat_of_toInt v1]
    split
    · rfl
    · unfold upS
      rw [if_neg (by omega), if_neg (by omega)]
theorem nightS_hi {u : Nat} {S : Nat → Int32} {c : CT} (h : BDy u S c) {k : Nat} (hk : 12 ≤ k) : ∀ {j : Nat}, j ≤ cP c → nightS S (cN c) j k = S k
  | 0, _ => rfl
  | j + 1, hj => (doS_hi h (j := j) (by omega) hk).trans (nightS_hi h hk (by omega))
theorem doS_bd {u w : Nat} {S P : Nat → Int32} {c : CT} (hP : BDy w P c) (h : BDy u S c) (hu : u < 5000) {j : Nat} (hj : j < cP c) : BDy (u + 1) (doS S P (cN c) j) c := by
  have hN := h.1.1.2
  have hW := h.1.2.1.2
  have h1 := h.mono (Nat.le_succ u)
  unfold doS
  rcases plan_cases hP hj with e | ⟨e, p, p1, p2, e1 | ⟨e1, v, v1, v2⟩⟩
  · rw [if_pos e]
    exact h.dawn hu
  · rw [if_neg e, if_neg e1, nat_of_toInt p1]
    exact h1.put (okAtY.has (by omega) (Or.inl rfl))
  · rw [if_neg e, if_pos e1, nat_of_toInt p1, nat_of_toInt v1]
    by_cases hz : S (7 + v) = 0
    · rw [if_pos hz]
      exact h1
    · rw [if_neg hz]
      exact (h1.put (okAtY.bot (by omega) (dec_natTo (h.2.2.2.2.1 v (by omega)).2 hz (by decide)))).put (okAtY.has (by omega) (Or.inr ⟨v, v1, v2⟩))
theorem nightS_bd {S : Nat → Int32} {c : CT} (h : BD S c) : ∀ {j : Nat}, j ≤ cP c → BDy (999 + j) (nightS S (cN c) j) c
  | 0, _ => h.y
  | j + 1, hj => doS_bd h.y (nightS_bd h (j := j) (by omega)) (by have := h.1.2.2.2.2.2.1.2; omega) (by omega)
