def R_law : String := "DrunkByYearLaw"
def lw_P (b : Addr) (xs : List Int32) (args : Array Value) (s : State) : Prop := args = #[.ref b] ∧ s.IntsAt b xs ∧ xs.length ≤ 2560 ∧ (Jvm.Cond.and given_1 narrow_1).before args s = true
def lw_Q (_ : Array Value) (s : State) (o : Outcome) (t : State) : Prop := o = .returned (some (.int 1)) ∧ Framed s o t [] 600000 7302250
def lw_Z (below : List Frame) (a : Array Value) (s : State) : State → Prop := fun t => ∃ o, t.status = .running ∧ Ended t below o ∧ lw_Q a s o t
/-- the law's own end, with 1 on the stack, nothing written that was there before, its room as the claim has it -/
theorem lw_ret {p : Program} {l : Launch} {e : Env} {s : State} {m : MethodId} {below : List Frame} {meth : Method} {c : Code} {b : Nat} (hx : p.tables.exec = Jvm.exec) (hb : c.code = code) (hr : meth.sig.returnType = ret) (hlocks : meth.locks = false) {pc : Nat} {H : Heap} {ls : Array Slot} (hdg : decode code pc = .ok (.ireturn, 1)) : W p l e room_1 s m #[Value.ref b] below meth c H [] 600000 7302250 (lw_Z below #[Value.ref b] s) (F0 m pc ls [.int 1]) := by
  intro T hT X
  obtain ⟨fs, hret, hrun, hended, hW, hframe⟩ := X.leave (v := some (.int 1)) (hlocks := hlocks) (fun h => by rw [hr] at h; cases h)
  have hmeth' : T.vm.method? m = some meth := X.method'
  refine ⟨T.setFrames fs, ?_, .returned (some (.int 1)), hrun, hended, rfl, ⟨_, rfl⟩, hW, hframe⟩
  jvm_step X.here [X.here.top, hx, hb, hdg, hmeth', hr, ret, narrow_b1]
  (try refine ⟨rfl, ?_⟩); (try refine ⟨rfl, ?_⟩)
  first | (intro acts; rw [hret _ acts rfl rfl rfl]) | rw [hret _ _ rfl rfl rfl]
  exact Steps.refl _
/-- what holds at the law's entry: the machine, the code, the tables' words (any of lw_tbl by 'hts w (by decide +kernel)'), the script of L ints xs at the cell b, what the Statement gives of the start (any of its parts by flat_of_before) -/
def lw_At (p : Program) (s : State) (m : MethodId) (meth : Method) (c : Code) (b L : Nat) (xs : Nat → Int32) : Prop :=
  p.tables.exec = Jvm.exec ∧ c.code = code ∧ meth.sig.returnType = ret ∧ c.maxLocals = 4 ∧ s.vm.findClass R_law = some m.cls ∧ (∀ w ∈ lw_tbl, w.before #[Value.ref b] s = true) ∧ va_X b L xs s s.heap ∧ b < s.heap.size ∧ meth.locks = false ∧ (Jvm.Cond.and given_1 narrow_1).before #[Value.ref b] s = true ∧ meth.name = "law"
/-! THE START: what is there before -/
def strT : Nat → Term := fun i => match i with
  | 0 => .string "DrunkByYear$Reader" 39
  | 1 => .string "DrunkByYear$Reader" 52
  | 2 => .string "DrunkByYear$Reader" 57
  | 3 => .string "DrunkByYear$Reader" 59
  | 4 => .string "DrunkByYear$Reader" 78
  | 5 => .string "DrunkByYear$Reader" 84
  | 6 => .string "DrunkByYearModel" 117
  | _ => .string "DrunkByYearModel" 125
theorem f_ex : ∀ i, i < 8 → Cond.exactly (strT i) "java/lang/String" ∈ (flatC (Jvm.Cond.and given_1 narrow_1)) := by decide +kernel
theorem f_co : ∀ i, i < 8 → Cond.eq (.field (strT i) "java/lang/String" "coder" "B") (.int 0) ∈ (flatC (Jvm.Cond.and given_1 narrow_1)) := by decide +kernel
theorem f_ar : ∀ i, i < 8 → Cond.arrayOf (.field (strT i) "java/lang/String" "value" "[B") .byte ∈ (flatC (Jvm.Cond.and given_1 narrow_1)) := by decide +kernel
theorem f_le : ∀ i, i < 8 → Cond.eq (.length (.field (strT i) "java/lang/String" "value" "[B")) (.int (Int32.ofNat (gSL.getD i 0))) ∈ (flatC (Jvm.Cond.and given_1 narrow_1)) := by decide +kernel
theorem f_el : ∀ i, i < 8 → ∀ j, j < gSL.getD i 0 → Cond.eq (.elem (.field (strT i) "java/lang/String" "value" "[B") (.int (Int32.ofNat j))) (.int ((gSB.getD i []).getD j 0)) ∈ (flatC (Jvm.Cond.and given_1 narrow_1)) := by decide +kernel
theorem f_ne : ∀ i, i < 8 → ∀ j, j < 8 → i ≠ j → Cond.not (Cond.eq (strT i) (strT j)) ∈ (flatC (Jvm.Cond.and given_1 narrow_1)) ∨ Cond.not (Cond.eq (strT j) (strT i)) ∈ (flatC (Jvm.Cond.and given_1 narrow_1)) := by decide +kernel
theorem f_len : ∀ i, i < 8 → gSL.getD i 0 < 2 ^ 31 := by decide +kernel
theorem f_same : Cond.eq (strT 2) (.string "DrunkByYearModel" 123) ∈ (flatC (Jvm.Cond.and given_1 narrow_1)) ∧ Cond.eq (strT 4) (.string "DrunkByYearModel" 99) ∈ (flatC (Jvm.Cond.and given_1 narrow_1)) ∧ Cond.eq (strT 5) (.string "DrunkByYearModel" 105) ∈ (flatC (Jvm.Cond.and given_1 narrow_1)) ∧ Cond.eq (strT 3) (.string "DrunkByYearModel" 130) ∈ (flatC (Jvm.Cond.and given_1 narrow_1)) := by decide +kernel
theorem f_st : Cond.eq (.static "java/lang/String" "COMPACT_STRINGS" "Z") (.int 1) ∈ (flatC (Jvm.Cond.and given_1 narrow_1)) ∧ Cond.isRef (.static "jdk/internal/util/Preconditions" "SIOOBE_FORMATTER" "Ljava/util/function/BiFunction;") ∈ (flatC (Jvm.Cond.and given_1 narrow_1)) := by decide +kernel
theorem f_ab : Cond.arrayOf (.static "DrunkByYear" "ABOVE" "[I") .int ∈ (flatC (Jvm.Cond.and given_1 narrow_1)) ∧ Cond.eq (.length (.static "DrunkByYear" "ABOVE" "[I")) (.int (Int32.ofNat 7)) ∈ (flatC (Jvm.Cond.and given_1 narrow_1)) ∧ ∀ j, j < 7 → Cond.eq (.elem (.static "DrunkByYear" "ABOVE" "[I") (.int (Int32.ofNat j))) (.int (gAB.getD j 0)) ∈ (flatC (Jvm.Cond.and given_1 narrow_1)) := by decide +kernel
theorem f_bo : Cond.arrayOf (.static "DrunkByYear$Acts" "BODY" "[I") .int ∈ (flatC (Jvm.Cond.and given_1 narrow_1)) ∧ Cond.eq (.length (.static "DrunkByYear$Acts" "BODY" "[I")) (.int (Int32.ofNat 21)) ∈ (flatC (Jvm.Cond.and given_1 narrow_1)) ∧ ∀ j, j < 21 → Cond.eq (.elem (.static "DrunkByYear$Acts" "BODY" "[I") (.int (Int32.ofNat j))) (.int (gBO.getD j 0)) ∈ (flatC (Jvm.Cond.and given_1 narrow_1)) := by decide +kernel
theorem t_st : Cond.laysStatic "java/lang/String" "COMPACT_STRINGS" "Z" ∈ lw_tbl ∧ Cond.laysStatic "jdk/internal/util/Preconditions" "SIOOBE_FORMATTER" "Ljava/util/function/BiFunction;" ∈ lw_tbl ∧ Cond.laysStatic "DrunkByYear" "ABOVE" "[I" ∈ lw_tbl ∧ Cond.laysStatic "DrunkByYear$Acts" "BODY" "[I" ∈ lw_tbl ∧ Cond.initialized "java/lang/String" ∈ lw_tbl ∧ Cond.initialized "jdk/internal/util/Preconditions" ∈ lw_tbl ∧ Cond.initialized "DrunkByYear" ∈ lw_tbl ∧ Cond.initialized "DrunkByYear$Acts" ∈ lw_tbl := by decide +kernel
theorem t_ov : Cond.arrayOver (.object "DrunkByYear$Village") ∈ lw_tbl ∧ Cond.arrayOver (.object "DrunkByYear$Person") ∈ lw_tbl ∧ Cond.arrayOver (.array .int) ∈ lw_tbl := by decide +kernel
theorem t_sr : Cond.stringRef "DrunkByYear$Reader" 39 "rown " ∈ lw_tbl ∧ Cond.stringRef "DrunkByYear$Reader" 52 "ld " ∈ lw_tbl ∧ Cond.stringRef "DrunkByYear$Reader" 57 "old " ∈ lw_tbl ∧ Cond.stringRef "DrunkByYear$Reader" 59 "meek " ∈ lw_tbl ∧ Cond.stringRef "DrunkByYear$Reader" 78 "pkvash" ∈ lw_tbl ∧ Cond.stringRef "DrunkByYear$Reader" 84 "<=>" ∈ lw_tbl ∧ Cond.stringRef "DrunkByYearModel" 117 "grown " ∈ lw_tbl ∧ Cond.stringRef "DrunkByYearModel" 125 "bold " ∈ lw_tbl ∧ Cond.stringRef "DrunkByYearModel" 123 "old " ∈ lw_tbl ∧ Cond.stringRef "DrunkByYearModel" 99 "pkvash" ∈ lw_tbl ∧ Cond.stringRef "DrunkByYearModel" 105 "<=>" ∈ lw_tbl ∧ Cond.stringRef "DrunkByYearModel" 130 "meek " ∈ lw_tbl := by decide +kernel
theorem tb_ne : ∀ w ∈ nestL, w ∈ lw_tbl := by decide +kernel
theorem tb_on : ∀ w ∈ nestL, w.onTables = true := by decide +kernel
theorem gIns {ci : Nat} (h : ci < 9) : Cond.instantiable (gRX ci) (gN ci) ∈ TBL := by
  match ci, h with
  | 0, _ => exact insX0
  | 1, _ => exact insX1
  | 2, _ => exact insX2
  | 3, _ => exact insX3
  | 4, _ => exact insX4
  | 5, _ => exact insX5
  | 6, _ => exact insX6
  | 7, _ => exact insX7
  | 8, _ => exact insX8
theorem my_eqR {args : Array Value} {s : State} {t u : Term} {a : Nat} (h : (Cond.eq t u).before args s = true) (ht : t.eval args s none [] s = some (.ref a)) : u.eval args s none [] s = some (.ref a) := by
  cases hv : u.eval args s none [] s with
  | none => simp [Cond.before, Cond.holds, Cond.value, hv, ht] at h
  | some w =>
    simp only [Cond.before, Cond.holds, Cond.value, hv, ht] at h
    cases w <;> simp_all
theorem arr_K {s : State} {args : Array Value} (hts : ∀ w ∈ lw_tbl, w.before args s = true) : ∀ k, ∃ cA : ClassId, k < 6 → ArrOfT s cA (gTy k) ∧ va_RA s cA (gTy k) := by
  have htT : ∀ w ∈ TBL, w.before args s = true := fun w hw => hts w (List.mem_filter.mp hw).1
  intro k
  match k with
  | 0 =>
    obtain ⟨c, kA, comp, h1, h2, h3⟩ := Cond.arrayClass_spec (htT _ ac_int)
    exact ⟨c, fun _ => ⟨fun n z => ⟨fun k h => (by cases h), kA, h2, comp, h3⟩, h1⟩⟩
  | 1 =>
    obtain ⟨c, kA, comp, h1, h2, h3⟩ := Cond.arrayClass_spec (htT _ ac_char)
    exact ⟨c, fun _ => ⟨fun n z => ⟨fun k h => (by cases h), kA, h2, comp, h3⟩, h1⟩⟩
  | 2 =>
    obtain ⟨c, kA, comp, h1, h2, h3⟩ := Cond.arrayClass_spec (htT _ ac_boolean)
    exact ⟨c, fun _ => ⟨fun n z => ⟨fun k h => (by cases h), kA, h2, comp, h3⟩, h1⟩⟩
  | 3 =>
    obtain ⟨comp, c, kA, h0, -, h2, h3, h4⟩ := arrayOverA_spec (hts _ t_ov.2.2)
    exact ⟨c, fun _ => ⟨fun n z => ⟨fun k h => (by cases h), kA, h2, comp, h3⟩, h4⟩⟩
  | 4 =>
    obtain ⟨comp, c, kA, h0, -, h2, h3, h4⟩ := Cond.arrayOver_spec (hts _ t_ov.1)
    exact ⟨c, fun _ => ⟨fun n z => ⟨fun k h => (by cases h), kA, h2, comp, h3⟩, kA, comp, h2, h3, h0, h4⟩⟩
  | 5 =>
    obtain ⟨comp, c, kA, h0, -, h2, h3, h4⟩ := Cond.arrayOver_spec (hts _ t_ov.2.1)
    exact ⟨c, fun _ => ⟨fun n z => ⟨fun k h => (by cases h), kA, h2, comp, h3⟩, kA, comp, h2, h3, h0, h4⟩⟩
  | k + 6 => exact ⟨default, fun h => absurd h (by omega)⟩
theorem cls_K {s : State} {args : Array Value} (hts : ∀ w ∈ lw_tbl, w.before args s = true) : ∀ k, ∃ q : ClassId × (Nat → Nat), k < 9 → u_Kn s (gRX k) (gT k) (gN k) q.1 q.2 := by
  have htT : ∀ w ∈ TBL, w.before args s = true := fun w hw => hts w (List.mem_filter.mp hw).1
  intro k
  by_cases hk : k < 9
  · obtain ⟨cC, iS, h⟩ := u_known (C := gRX k) (T := gT k) (N := gN k) (n := gN k) htT (gIn_ok hk) (htT _ (gIns hk))
    exact ⟨(cC, iS), fun _ => h⟩
  · exact ⟨(default, fun _ => 0), fun h => absurd h hk⟩
theorem start_K {s : State} {b L : Nat} {xs : Nat → Int32} (hts : ∀ w ∈ lw_tbl, w.before #[Value.ref b] s = true) (hgv : (Jvm.Cond.and given_1 narrow_1).before #[Value.ref b] s = true) (hX : va_X b L xs s s.heap) (hbl : b < s.heap.size) : ∃ G : GT, G.1 0 = b ∧ gS0 G = s.heap.size ∧ gLen G = L ∧ gXs G = xs ∧ gK G s s.heap := by
  have hs := flat_of_before _ hgv
  have hA : ∀ a : Nat, a < s.heap.size → ¬ (fun q : Nat => s.heap.size ≤ q) a := fun a h1 h2 => absurd h1 (Nat.not_lt.mpr h2)
  obtain ⟨cf, hcf⟩ := Classical.axiomOfChoice (cls_K hts)
  obtain ⟨af, haf⟩ := Classical.axiomOfChoice (arr_K hts)
  obtain ⟨adK, adV, hSS, hSe⟩ := vk_Sof (N := 8) (tm := strT) (len := gSL) (byt := gSB) f_len (fun i hi => hs _ (f_ex i hi)) (fun i hi => hs _ (f_co i hi)) (fun i hi => hs _ (f_ar i hi)) (fun i hi => hs _ (f_le i hi)) (fun i hi j hj => hs _ (f_el i hi j hj)) (fun i j hi hj hij => (f_ne i hi j hj hij).elim (fun h => Or.inl (hs _ h)) (fun h => Or.inr (hs _ h))) hA
  obtain ⟨t1, ht1, hT1⟩ := va_Tof (N := 7) (f := fun j => .int (gAB.getD j 0)) (by decide) (hs _ f_ab.1) (va_eqt (hs _ f_ab.2.1)) (fun j hj => va_eqt (hs _ (f_ab.2.2 j hj))) hA
  obtain ⟨t2, ht2, hT2⟩ := va_Tof (N := 21) (f := fun j => .int (gBO.getD j 0)) (by decide) (hs _ f_bo.1) (va_eqt (hs _ f_bo.2.1)) (fun j hj => va_eqt (hs _ (f_bo.2.2 j hj))) hA
  obtain ⟨l1, l2, l3, l4, l5, l6, l7, l8⟩ := t_st
  have hZ3 : ∃ t3 : Nat, va_Z "jdk/internal/util/Preconditions" "SIOOBE_FORMATTER" "Ljava/util/function/BiFunction;" .null (fun q : Nat => s.heap.size ≤ q) s s.heap ∨ va_Z "jdk/internal/util/Preconditions" "SIOOBE_FORMATTER" "Ljava/util/function/BiFunction;" (.ref t3) (fun q : Nat => s.heap.size ≤ q) s s.heap := by
    rcases va_Zqof (hts _ l2) (hts _ l6) (hs _ f_st.2) hA with h | ⟨t, h⟩
    · exact ⟨0, Or.inl h⟩
    · exact ⟨t, Or.inr h⟩
  obtain ⟨t3, hZ3⟩ := hZ3
  obtain ⟨scr, x1, x2, x3, x4, x5⟩ := hX
  refine ⟨(fun i => if i = 0 then b else if i = 1 then t1 else if i = 2 then t2 else if i = 3 then t3 else if i < 16 then adK (i - 4) else adV (i - 16), s.heap.size, fun k => (cf k).1, fun k => (cf k).2, af, L, xs), rfl, rfl, rfl, rfl, ⟨fun c q hq => ?_, fun k q hq => ?_⟩, fun w hw => va_Nw.of (tb_on w hw) (hts w (tb_ne w hw)), ⟨va_AO.of (hts _ t_ov.1), va_AO.of (hts _ t_ov.2.1), hts _ t_ov.2.2⟩, ?_, ?_⟩
  · have hc : c < 9 := (List.getElem?_eq_some_iff.mp hq).1
    rw [gCls_at hc] at hq
    cases hq
    exact hcf c hc
  · have hk : k < 6 := (List.getElem?_eq_some_iff.mp hq).1
    rw [gTys_at _ hk] at hq
    cases hq
    exact haf k hk
  · obtain ⟨s0, s1, s2, s3, s4, s5, s6, s7, s8, s9, s10, s11⟩ := t_sr
    refine ⟨vk_R.of (hts _ s0) (hSe 0 (by decide)), vk_R.of (hts _ s1) (hSe 1 (by decide)), vk_R.of (hts _ s2) (hSe 2 (by decide)), vk_R.of (hts _ s3) (hSe 3 (by decide)), vk_R.of (hts _ s4) (hSe 4 (by decide)), vk_R.of (hts _ s5) (hSe 5 (by decide)), vk_R.of (hts _ s6) (hSe 6 (by decide)), vk_R.of (hts _ s8) (my_eqR (hs _ f_same.1) (hSe 2 (by decide))), vk_R.of (hts _ s7) (hSe 7 (by decide)), vk_R.of (hts _ s9) (my_eqR (hs _ f_same.2.1) (hSe 4 (by decide))), vk_R.of (hts _ s10) (my_eqR (hs _ f_same.2.2.1) (hSe 5 (by decide))), vk_R.of (hts _ s11) (my_eqR (hs _ f_same.2.2.2) (hSe 3 (by decide)))⟩
  · refine ⟨⟨scr, x1, x2, x3, Nat.le_of_eq x4.symm, by rw [x4], x5, hA b hbl⟩, ⟨va_Zref (hts _ l3) (hts _ l7) ht1 hA, hT1⟩, ⟨va_Zref (hts _ l4) (hts _ l8) ht2 hA, hT2⟩, va_Zof (hts _ l1) (hts _ l5) (va_eqt (hs _ f_st.1)) hA, hZ3, fun i hi => ?_, fun i j hi hj e => ?_⟩
    · have e1 : (if 4 + i = 0 then b else if 4 + i = 1 then t1 else if 4 + i = 2 then t2 else if 4 + i = 3 then t3 else if 4 + i < 16 then adK (4 + i - 4) else adV (4 + i - 16)) = adK i := by
        rw [if_neg (by omega), if_neg (by omega), if_neg (by omega), if_neg (by omega), if_pos (by omega), Nat.add_sub_cancel_left]
      have e2 : (if 16 + i = 0 then b else if 16 + i = 1 then t1 else if 16 + i = 2 then t2 else if 16 + i = 3 then t3 else if 16 + i < 16 then adK (16 + i - 4) else adV (16 + i - 16)) = adV i := by
        rw [if_neg (by omega), if_neg (by omega), if_neg (by omega), if_neg (by omega), if_neg (by omega), Nat.add_sub_cancel_left]
      have h := hSS.1 i hi
      rw [← e1, ← e2] at h
      exact h
    · have e1 : ∀ i, i < 8 → (if 4 + i = 0 then b else if 4 + i = 1 then t1 else if 4 + i = 2 then t2 else if 4 + i = 3 then t3 else if 4 + i < 16 then adK (4 + i - 4) else adV (4 + i - 16)) = adK i := fun i hi => by
        rw [if_neg (by omega), if_neg (by omega), if_neg (by omega), if_neg (by omega), if_pos (by omega), Nat.add_sub_cancel_left]
      have e' : adK i = adK j := (e1 i hi).symm.trans (Eq.trans e (e1 j hj))
      exact hSS.2 i j hi hj e'
theorem whole_start {p : Program} {e : Env} {s : State} {m : MethodId} {below : List Frame} {meth : Method} {c : Code} (l : Launch) (hflags : l.flags = flags0) {b L : Nat} {xs : Nat → Int32} (hL : L ≤ 2560) (C0 : lw_At p s m meth c b L xs) : W p l e room_1 s m #[Value.ref b] below meth c s.heap [] 0 0 (lw_Z below #[Value.ref b] s) (entryFrame m ([Value.ref b] : List Value).toArray 4) := by
  obtain ⟨hx, hb, hr, hml, hown, hts, hX, hbl, hlocks, hgv, hnm⟩ := C0
  obtain ⟨G, g0, g1, g2, g3, hK⟩ := start_K hts hgv hX hbl
  have hV := law_all hL (fun i j => if i = 0 then xs j else 0) (fun i j => if i = 0 ∧ j = 0 then some L else none) rfl
  have hXX : gX KL_law 33 600000 7302250 G p room_1 s m #[Value.ref b] meth c := ⟨hx, hb, hml, hown, fun w hw => hts w (List.mem_filter.mp hw).1, ⟨by decide, by decide, rfl, rfl⟩, hnm, hK, Nat.le_of_eq g1⟩
  have hRet : gRet KL_law 600000 7302250 lawQ G p l e room_1 s m #[Value.ref b] below meth c (lw_Z below #[Value.ref b] s) := by
    intro H locs cells slots ls pc n mi mr r hH hS hc hs2 hq hret
    subst hq
    refine va_forget (fun q hq => ?_) ?_
    · have h := hS.2.2 q hq
      show s.heap.size ≤ q.base
      rw [← g1]
      exact h
    · exact W.widen hc hs2 (lw_ret hx hb hr hlocks hret.1)
  have hH : gH G 32 (fun i j => if i = 0 then xs j else 0) (fun i j => if i = 0 ∧ j = 0 then some L else none) s.heap := ⟨Nat.le_refl _, g1.symm, fun i h1 h2 => absurd h1 (Nat.not_le.mpr h2), g3, by rw [g2]; rfl⟩
  have hl := lv_entry ([.ref b]) (n := 4) (Nat.le_of_ble_eq_true rfl)
  rw [lg_entry_eq]
  generalize (lg_sl ([.ref b]) ++ List.replicate (4 - (lg_sl ([.ref b])).length) Slot.unset).toArray = ls at hl ⊢
  refine hV G p l e room_1 s m #[Value.ref b] below meth c _ 600000 7302250 hXX hRet s.heap [] 0 0 ls hH va_S.rf (by decide) (by decide) ⟨hl.1, hl.2.1, fun q hq => ?_⟩
  refine hl.2.2 q ?_
  obtain ⟨i, v⟩ := q
  obtain ⟨w, h1, h2⟩ := gL_in.mp hq
  match i, h1 with
  | 0, h1 =>
    cases h1
    have e : gV G (.ref 0) = .ref b := congrArg Value.ref g0
    rw [h2, e]
    exact List.mem_cons_self
  | 1, h1 => cases h1
  | 2, h1 => cases h1
  | 3, h1 => cases h1
  | _ + 4, h1 => simp at h1
