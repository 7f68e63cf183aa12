/-! calls over V; old things (texts, static arrays, the script) -/
def okMth (K : KT) : Prop := Cond.code K.1 K.2.1 K.2.2.1 K.2.2.2 ∈ TBL ∧ Cond.initialized K.1.cls ∈ TBL ∧ (K.1.cls ≠ "java/lang/invoke/MethodHandle" ∧ K.1.cls ≠ "java/lang/invoke/VarHandle") ∧ K.2.2.1 ≤ 45
def okInst (K : KT) : Prop := Cond.instanceMethod K.1 ∈ TBL ∧ Cond.selects K.1.cls K.1 K.1 ∈ TBL
theorem gAd_old (G : GT) {i : Nat} (h : i < 32) : gAd G i = G.1 i := if_pos h
theorem gPre_blind (G : GT) (as : List Value) (n : Nat) (mi : MI) (mr : MR) : FrameBlind (va_Pc (as.map (gV G)) (fun U => gH G n mi mr U.heap ∧ gK G U U.heap)) := fun a U g mk q => ⟨q.1, q.2.1, gK.same (s := U) (U := U.calling g mk a) rfl q.2.2⟩
section CB
variable {p : Program} {l : Launch} {e : Env} {R : Room} {s : State} {m : MethodId} {args : Array Value} {below : List Frame} {meth : Method} {c : Code} {H : Heap} {locs : List Loc} {cells slots : Nat} {Z : State → Prop}
theorem W_after {G : GT} {Q' : QT} {a : Array Value} {mc' ms' pc : Nat} {ls : Array Slot} {st : List Value} {st0 : List Value} (hr : va_Run p l e R s m args below meth c H locs cells slots mc' ms' (F0 m pc ls st0) (st.map (gV G)) (gQ G Q' a) (gA G)) (hS : va_S (gA G) s.heap H locs)
    (kk : ∀ (r : Option Value) (n' : Nat) (mi' : MI) (mr' : MR) (H1 : Heap) (locs1 : List Loc), Q' r n' mi' mr' → gH G n' mi' mr' H1 → va_S (gA G) s.heap H1 locs1 → W p l e R s m args below meth c H1 locs1 (cells + mc') (slots + ms') Z (F0 m (pc + 3) ls ((r.toList ++ st).map (gV G)))) : W p l e R s m args below meth c H locs cells slots Z (F0 m pc ls st0) := by
  intro T hT X
  obtain ⟨v, st₀, t, T', L, h0, X', hL, e1, e2, ⟨⟨r, n', mi', mr', hv, hq, hh⟩, hz, hk⟩, st2⟩ := hr T hT X
  have hv : v = r.map (gV G) := by cases hv; rfl
  subst hv
  rw [h0] at hz hk
  obtain ⟨t2, a1, b1⟩ := kk r n' mi' mr' T'.heap (locs ++ L) hq (by rw [e1]; exact hh)
    ⟨Nat.le_trans hS.1 (by rw [e1]; exact hz), fun q h1 h2 => by rw [e1, hk q (Nat.lt_of_lt_of_le h1 hS.1) h2]; exact hS.2.1 q h1 h2, fun q hq => by
      rcases List.mem_append.mp hq with h | h
      · exact hS.2.2 q h
      · exact hL q h⟩ T' rfl X'
  refine ⟨t2, st2 t2 ?_, b1⟩
  have e : (Option.map (gV G) r).toList ++ st.map (gV G) = (r.toList ++ st).map (gV G) := by cases r <;> rfl
  show Steps p.tables _ below (T'.setTop (F0 m (pc + 3) ls ((Option.map (gV G) r).toList ++ st.map (gV G)))) t2
  rw [e]
  exact a1
end CB
section CC
variable {K : KT} {d cl sl : Nat} {Q : QT} {pc : Nat} {L : List (Option Value)} {st : List Value} {n : Nat} {mi : MI} {mr : MR}
theorem gStart {G : GT} {s : State} {p : Program} {R : Room} {m : MethodId} {args : Array Value} {meth : Method} {c : Code} {mc ms : Nat} (C : gX K d mc ms G p R s m args meth c) {H : Heap} {locs : List Loc} (hH : gH G n mi mr H) (hS : va_S (gA G) s.heap H locs) (as : List Value) (U : State) (hU : U.heap = H) (hW : s.WarmedH U.vm) : va_Pc (as.map (gV G)) (fun U => gH G n mi mr U.heap ∧ gK G U U.heap) (as.map (gV G)).toArray U :=
  ⟨rfl, by rw [hU]; exact hH, by rw [hU]; exact (gK.warm hW C.2.2.2.2.2.2.2.1).kept hS.2.1⟩
theorem gRoom {G : GT} {s : State} {p : Program} {R : Room} {m : MethodId} {args : Array Value} {meth : Method} {c : Code} {mc ms : Nat} (C : gX K d mc ms G p R s m args meth c) {K' : KT} (hm : okMth K') {d' mc' ms' : Nat} (hd : d' + 1 ≤ d) : (rmD d' mc' ms').frames + 1 ≤ R.frames ∧ 8 + (K'.2.2.1 + 11) + (rmD d' mc' ms').locals ≤ R.locals := by
  have h1 := C.2.2.2.2.2.1
  have h2 := hm.2.2.2
  exact ⟨by show d' + 1 ≤ _; omega, by show 8 + (K'.2.2.1 + 11) + 64 * d' ≤ _; omega⟩
theorem gCat {G : GT} {m : MethodId} {ls : Array Slot} {st0 : List Value} (h : (st.map fun v => v.category).sum ≤ 8) : 2 * (F0 m pc ls st0).monitorRoom + ((st.map (gV G)).map fun v => v.category).sum ≤ 8 := by
  refine lv_room ?_
  rw [List.map_map, show ((fun v : Value => v.category) ∘ gV G) = (fun v : Value => v.category) from funext (gV_cat G)]
  exact h
theorem gStk {G : GT} {As : List Value} {b : Nat} : ((As.reverse ++ .ref b :: st).map (gV G)) = (As.map (gV G)).reverse ++ .ref (gAd G b) :: st.map (gV G) := by
  rw [List.map_append, List.map_reverse]
  rfl
theorem gStk0 {G : GT} {As : List Value} : ((As.reverse ++ st).map (gV G)) = (As.map (gV G)).reverse ++ st.map (gV G) := by
  rw [List.map_append, List.map_reverse]
theorem V_callV {K' : KT} {index b ci d' mc' ms' cl' sl' : Nat} {As : List Value} {stk : List Value} {Q' : QT} (hCt : Ct K' d' mc' ms' (.ref b :: As) n mi mr Q') (hd : decode K.2.1 pc = .ok (.invokevirtual index, 3)) (hw : Cond.methodLink K.1.cls index K'.1 ∈ TBL) (hm : okMth K') (hi : okInst K') (hC : K'.1.cls = gRX ci) (hsh : SH b = .inl ci) (hb : 32 ≤ b ∧ b < n) (hci : ci < 9) (hstk : stk = As.reverse ++ .ref b :: st) (hn : (parseMethodDescriptor K'.1.desc).map (fun q => q.parameters.length) = some As.length) (hdd : d' + 1 ≤ d) (hst : (st.map fun v => v.category).sum ≤ 8) (hcl : cl = cl' + mc') (hsl : sl = sl' + ms')
    (kk : ∀ (r : Option Value) (n' : Nat) (mi' : MI) (mr' : MR), Q' r n' mi' mr' → V K d cl' sl' Q (pc + 3) L (r.toList ++ st) n' mi' mr') : V K d cl sl Q pc L stk n mi mr := by
  subst hstk
  intro G p l e R s m args below meth c Z mc ms C hR H locs cells slots ls hH hS hc hs hl
  have hts := C.2.2.2.2.1
  have hRm := C.2.2.2.2.2.1
  have hB := va_P_one (hH.at hb)
  rw [gE_obj hsh] at hB
  rw [gStk]
  refine W_after (va_runV (As := As.map (gV G)) (n := As.length) ⟨C.1, C.2.1, C.2.2.1, C.2.2.2.1, hts⟩ (hCt l G) ⟨callB_of As.length hts (TBL_good hm.1) rfl rfl rfl (hts _ hm.2.1) (hts _ hw) ⟨hm.2.2.1.1, hm.2.2.1.2, hn⟩ (gRoom C hm hdd), hts _ hi.1, hts _ hi.2⟩ ⟨gPre_blind G _ n mi mr, ?_, fun U hU hW => gStart C hH hS _ U hU hW⟩ rfl (by simp) hl.1 rfl (gCat hst) hd (by omega)) hS (fun r n' mi' mr' H1 locs1 hq hh hs1 => kk r n' mi' mr' hq G p l e R s m args below meth c Z mc ms C hR H1 locs1 _ _ ls hh hs1 (by omega) (by omega) hl)
  obtain ⟨cell, h1, h2, h3⟩ := va_recv C.2.2.2.2.2.2.2.1.1 hB (gCls_at hci) (q0 := 0) rfl
  exact ⟨cell, h1, h2, by rw [hC]; exact h3⟩
theorem V_callVs {K' : KT} {index k d' mc' ms' cl' sl' : Nat} {As : List Value} {stk : List Value} {Q' : QT} (hCt : Ct K' d' mc' ms' (.ref (4 + k) :: As) n mi mr Q') (hd : decode K.2.1 pc = .ok (.invokevirtual index, 3)) (hw : Cond.methodLink K.1.cls index K'.1 ∈ TBL) (hm : okMth K') (hi : okInst K') (hC : K'.1.cls = "java/lang/String") (hk : k < 8) (hstk : stk = As.reverse ++ .ref (4 + k) :: st) (hn : (parseMethodDescriptor K'.1.desc).map (fun q => q.parameters.length) = some As.length) (hdd : d' + 1 ≤ d) (hst : (st.map fun v => v.category).sum ≤ 8) (hcl : cl = cl' + mc') (hsl : sl = sl' + ms')
    (kk : ∀ (r : Option Value) (n' : Nat) (mi' : MI) (mr' : MR), Q' r n' mi' mr' → V K d cl' sl' Q (pc + 3) L (r.toList ++ st) n' mi' mr') : V K d cl sl Q pc L stk n mi mr := by
  subst hstk
  intro G p l e R s m args below meth c Z mc ms C hR H locs cells slots ls hH hS hc hs hl
  have hts := C.2.2.2.2.1
  have hRm := C.2.2.2.2.2.1
  rw [gStk]
  refine W_after (va_runV (As := As.map (gV G)) (n := As.length) ⟨C.1, C.2.1, C.2.2.1, C.2.2.2.1, hts⟩ (hCt l G) ⟨callB_of As.length hts (TBL_good hm.1) rfl rfl rfl (hts _ hm.2.1) (hts _ hw) ⟨hm.2.2.1.1, hm.2.2.1.2, hn⟩ (gRoom C hm hdd), hts _ hi.1, hts _ hi.2⟩ ⟨gPre_blind G _ n mi mr, ?_, fun U hU hW => gStart C hH hS _ U hU hW⟩ rfl (by simp) hl.1 rfl (gCat hst) hd (by omega)) hS (fun r n' mi' mr' H1 locs1 hq hh hs1 => kk r n' mi' mr' hq G p l e R s m args below meth c Z mc ms C hR H1 locs1 _ _ ls hh hs1 (by omega) (by omega) hl)
  obtain ⟨cell, h1, h2, h3⟩ := vk_recv C.2.2.2.2.2.2.2.1.2.2.2.2.2.2.2.2.2 hk hS
  exact ⟨cell, by rw [gAd_old G (by omega)]; exact h1, h2, by rw [hC]; exact h3⟩
theorem V_callS {K' : KT} {index d' mc' ms' cl' sl' : Nat} {As : List Value} {stk : List Value} {Q' : QT} (hCt : Ct K' d' mc' ms' As n mi mr Q') (hd : decode K.2.1 pc = .ok (.invokestatic index, 3)) (hw : Cond.methodLink K.1.cls index K'.1 ∈ TBL) (hm : okMth K') (hi : Cond.static K'.1 ∈ TBL) (hstk : stk = As.reverse ++ st) (hn : (parseMethodDescriptor K'.1.desc).map (fun q => q.parameters.length) = some As.length) (hdd : d' + 1 ≤ d) (hst : (st.map fun v => v.category).sum ≤ 8) (hcl : cl = cl' + mc') (hsl : sl = sl' + ms')
    (kk : ∀ (r : Option Value) (n' : Nat) (mi' : MI) (mr' : MR), Q' r n' mi' mr' → V K d cl' sl' Q (pc + 3) L (r.toList ++ st) n' mi' mr') : V K d cl sl Q pc L stk n mi mr := by
  subst hstk
  intro G p l e R s m args below meth c Z mc ms C hR H locs cells slots ls hH hS hc hs hl
  have hts := C.2.2.2.2.1
  have hRm := C.2.2.2.2.2.1
  rw [gStk0]
  exact W_after (va_runS (As := As.map (gV G)) (n := As.length) ⟨C.1, C.2.1, C.2.2.1, C.2.2.2.1, hts⟩ (hCt l G) ⟨callB_of As.length hts (TBL_good hm.1) rfl rfl rfl (hts _ hm.2.1) (hts _ hw) ⟨hm.2.2.1.1, hm.2.2.1.2, hn⟩ (gRoom C hm hdd), hts _ hi⟩ ⟨gPre_blind G _ n mi mr, fun U hU hW => gStart C hH hS _ U hU hW⟩ rfl (by simp) hl.1 rfl (gCat hst) hd (by omega)) hS (fun r n' mi' mr' H1 locs1 hq hh hs1 => kk r n' mi' mr' hq G p l e R s m args below meth c Z mc ms C hR H1 locs1 _ _ ls hh hs1 (by omega) (by omega) hl)
theorem V_callI {K' : KT} {index b d' mc' ms' cl' sl' : Nat} {As : List Value} {stk : List Value} {Q' : QT} (hCt : Ct K' d' mc' ms' (.ref b :: As) n mi mr Q') (hd : decode K.2.1 pc = .ok (.invokespecial index, 3)) (hw : Cond.methodLink K.1.cls index K'.1 ∈ TBL) (hm : okMth K') (hi : Cond.instanceMethod K'.1 ∈ TBL) (hnm : K'.1.name = "<init>" ∧ K'.2.2.2 = none) (hstk : stk = As.reverse ++ .ref b :: st) (hn : (parseMethodDescriptor K'.1.desc).map (fun q => q.parameters.length) = some As.length) (hdd : d' + 1 ≤ d) (hst : (st.map fun v => v.category).sum ≤ 8) (hcl : cl = cl' + mc') (hsl : sl = sl' + ms')
    (kk : ∀ (r : Option Value) (n' : Nat) (mi' : MI) (mr' : MR), Q' r n' mi' mr' → V K d cl' sl' Q (pc + 3) L (r.toList ++ st) n' mi' mr') : V K d cl sl Q pc L stk n mi mr := by
  subst hstk
  intro G p l e R s m args below meth c Z mc ms C hR H locs cells slots ls hH hS hc hs hl
  have hts := C.2.2.2.2.1
  have hRm := C.2.2.2.2.2.1
  have hcb := callB_of (ws := WK K') (R := R) (own := K.1.cls) (index := index) (rm := rmD d' mc' ms') (mc := mc') (ms := ms') As.length hts (TBL_good hm.1) rfl rfl rfl (hts _ hm.2.1) (hts _ hw) ⟨hm.2.2.1.1, hm.2.2.1.2, hn⟩ (gRoom C hm hdd)
  rw [hnm.2] at hcb
  rw [gStk]
  exact W_after (va_runI (As := As.map (gV G)) (n := As.length) ⟨C.1, C.2.1, C.2.2.1, C.2.2.2.1, hts⟩ (hCt l G) ⟨hcb, hnm.1, hts _ hi⟩ ⟨gPre_blind G _ n mi mr, fun U hU hW => gStart C hH hS (.ref b :: As) U hU hW⟩ rfl (by simp) hl.1 rfl (gCat hst) hd (by omega)) hS (fun r n' mi' mr' H1 locs1 hq hh hs1 => kk r n' mi' mr' hq G p l e R s m args below meth c Z mc ms C hR H1 locs1 _ _ ls hh hs1 (by omega) (by omega) hl)
theorem gCN {G : GT} {s : State} {p : Program} {R : Room} {m : MethodId} {args : Array Value} {meth : Method} {c : Code} {mc ms : Nat} (C : gX K d mc ms G p R s m args meth c) {K' : KT} {host : String} {index d' mc' ms' k : Nat} (hm : okMth K') (hw : Cond.methodLinkNest K.1.cls index K'.1 host ∈ nestL) (hn : (parseMethodDescriptor K'.1.desc).map (fun q => q.parameters.length) = some k) (hdd : d' + 1 ≤ d) : va_CN R s args K.1.cls index K'.1 host K'.2.1 K'.2.2.1 K'.2.2.2 (WK K') (rmD d' mc' ms') mc' ms' k :=
  va_cnB k C.2.2.2.2.1 (TBL_good hm.1) rfl rfl rfl (C.2.2.2.2.2.2.2.1.2.1 _ hw) (C.2.2.2.2.1 _ hm.2.1) ⟨hm.2.2.1.1, hm.2.2.1.2, hn⟩ (gRoom C hm hdd)
theorem V_callSN {K' : KT} {host : String} {index d' mc' ms' cl' sl' : Nat} {As : List Value} {stk : List Value} {Q' : QT} (hCt : Ct K' d' mc' ms' As n mi mr Q') (hd : decode K.2.1 pc = .ok (.invokestatic index, 3)) (hw : Cond.methodLinkNest K.1.cls index K'.1 host ∈ nestL) (hm : okMth K') (hi : Cond.static K'.1 ∈ TBL) (hstk : stk = As.reverse ++ st) (hn : (parseMethodDescriptor K'.1.desc).map (fun q => q.parameters.length) = some As.length) (hdd : d' + 1 ≤ d) (hst : (st.map fun v => v.category).sum ≤ 8) (hcl : cl = cl' + mc') (hsl : sl = sl' + ms')
    (kk : ∀ (r : Option Value) (n' : Nat) (mi' : MI) (mr' : MR), Q' r n' mi' mr' → V K d cl' sl' Q (pc + 3) L (r.toList ++ st) n' mi' mr') : V K d cl sl Q pc L stk n mi mr := by
  subst hstk
  intro G p l e R s m args below meth c Z mc ms C hR H locs cells slots ls hH hS hc hs hl
  have hts := C.2.2.2.2.1
  have hRm := C.2.2.2.2.2.1
  rw [gStk0]
  exact W_after (va_runSN (As := As.map (gV G)) (n := As.length) ⟨C.1, C.2.1, C.2.2.1, C.2.2.2.1, hts⟩ (hCt l G) ⟨gCN C hm hw hn hdd, hts _ hi, trivial⟩ ⟨gPre_blind G _ n mi mr, fun U hU hW => gStart C hH hS _ U hU hW⟩ rfl (by simp) hl.1 rfl (gCat hst) hd (by omega)) hS (fun r n' mi' mr' H1 locs1 hq hh hs1 => kk r n' mi' mr' hq G p l e R s m args below meth c Z mc ms C hR H1 locs1 _ _ ls hh hs1 (by omega) (by omega) hl)
theorem V_callVN {K' : KT} {host : String} {index b ci d' mc' ms' cl' sl' : Nat} {As : List Value} {stk : List Value} {Q' : QT} (hCt : Ct K' d' mc' ms' (.ref b :: As) n mi mr Q') (hd : decode K.2.1 pc = .ok (.invokevirtual index, 3)) (hw : Cond.methodLinkNest K.1.cls index K'.1 host ∈ nestL) (hm : okMth K') (hi : okInst K') (hC : K'.1.cls = gRX ci) (hsh : SH b = .inl ci) (hb : 32 ≤ b ∧ b < n) (hci : ci < 9) (hstk : stk = As.reverse ++ .ref b :: st) (hn : (parseMethodDescriptor K'.1.desc).map (fun q => q.parameters.length) = some As.length) (hdd : d' + 1 ≤ d) (hst : (st.map fun v => v.category).sum ≤ 8) (hcl : cl = cl' + mc') (hsl : sl = sl' + ms')
    (kk : ∀ (r : Option Value) (n' : Nat) (mi' : MI) (mr' : MR), Q' r n' mi' mr' → V K d cl' sl' Q (pc + 3) L (r.toList ++ st) n' mi' mr') : V K d cl sl Q pc L stk n mi mr := by
  subst hstk
  intro G p l e R s m args below meth c Z mc ms C hR H locs cells slots ls hH hS hc hs hl
  have hts := C.2.2.2.2.1
  have hRm := C.2.2.2.2.2.1
  have hB := va_P_one (hH.at hb)
  rw [gE_obj hsh] at hB
  rw [gStk]
  refine W_after (va_runVN (As := As.map (gV G)) (n := As.length) ⟨C.1, C.2.1, C.2.2.1, C.2.2.2.1, hts⟩ (hCt l G) ⟨gCN C hm hw hn hdd, hts _ hi.1, hts _ hi.2⟩ ⟨gPre_blind G _ n mi mr, ?_, fun U hU hW => gStart C hH hS _ U hU hW⟩ rfl (by simp) hl.1 rfl (gCat hst) hd (by omega)) hS (fun r n' mi' mr' H1 locs1 hq hh hs1 => kk r n' mi' mr' hq G p l e R s m args below meth c Z mc ms C hR H1 locs1 _ _ ls hh hs1 (by omega) (by omega) hl)
  obtain ⟨cell, h1, h2, h3⟩ := va_recv C.2.2.2.2.2.2.2.1.1 hB (gCls_at hci) (q0 := 0) rfl
  exact ⟨cell, h1, h2, by rw [hC]; exact h3⟩
theorem V_callIN {K' : KT} {host : String} {index b d' mc' ms' cl' sl' : Nat} {As : List Value} {stk : List Value} {Q' : QT} (hCt : Ct K' d' mc' ms' (.ref b :: As) n mi mr Q') (hd : decode K.2.1 pc = .ok (.invokespecial index, 3)) (hw : Cond.methodLinkNest K.1.cls index K'.1 host ∈ nestL) (hm : okMth K') (hi : Cond.instanceMethod K'.1 ∈ TBL) (hnm : K'.1.name = "<init>" ∧ K'.2.2.2 = none) (hstk : stk = As.reverse ++ .ref b :: st) (hn : (parseMethodDescriptor K'.1.desc).map (fun q => q.parameters.length) = some As.length) (hdd : d' + 1 ≤ d) (hst : (st.map fun v => v.category).sum ≤ 8) (hcl : cl = cl' + mc') (hsl : sl = sl' + ms')
    (kk : ∀ (r : Option Value) (n' : Nat) (mi' : MI) (mr' : MR), Q' r n' mi' mr' → V K d cl' sl' Q (pc + 3) L (r.toList ++ st) n' mi' mr') : V K d cl sl Q pc L stk n mi mr := by
  subst hstk
  intro G p l e R s m args below meth c Z mc ms C hR H locs cells slots ls hH hS hc hs hl
  have hts := C.2.2.2.2.1
  have hRm := C.2.2.2.2.2.1
  have hcb := gCN (d' := d') (mc' := mc') (ms' := ms') C hm hw hn hdd
  rw [hnm.2] at hcb
  rw [gStk]
  exact W_after (va_runIN (As := As.map (gV G)) (n := As.length) ⟨C.1, C.2.1, C.2.2.1, C.2.2.2.1, hts⟩ (hCt l G) ⟨hcb, hnm.1, hts _ hi⟩ ⟨gPre_blind G _ n mi mr, fun U hU hW => gStart C hH hS (.ref b :: As) U hU hW⟩ rfl (by simp) hl.1 rfl (gCat hst) hd (by omega)) hS (fun r n' mi' mr' H1 locs1 hq hh hs1 => kk r n' mi' mr' hq G p l e R s m args below meth c Z mc ms C hR H1 locs1 _ _ ls hh hs1 (by omega) (by omega) hl)
-- old things
theorem V_gets {index : Nat} {C0 nm ds : String} {v : Value} (hd : decode K.2.1 pc = .ok (.getstatic index, 3)) (hw : Cond.fieldLink K.1.cls index C0 nm ds ∈ TBL) (hZ : ∀ (G : GT) (U : State) (H : Heap), gO G U H → va_Z C0 nm ds (gV G v) (gA G) U H)
    (kk : V K d cl sl Q (pc + 3) L (v :: st) n mi mr) : V K d cl sl Q pc L st n mi mr := by
  intro G p l e R s m args below meth c Z mc ms C hR H locs cells slots ls hH hS hc hs hl
  exact va_gets (ref := C0) C.1 C.2.1 (hZ G s s.heap C.2.2.2.2.2.2.2.1.2.2.2.2) hS C.2.2.2.1 (C.2.2.2.2.1 _ hw) (fun x h => h) hd (kk G p l e R s m args below meth c Z mc ms C hR H locs cells slots ls hH hS hc hs hl)
theorem V_getsN {index : Nat} {C0 nm ds host : String} {v : Value} (hd : decode K.2.1 pc = .ok (.getstatic index, 3)) (hw : Cond.fieldLinkNest K.1.cls index C0 nm ds host ∈ nestL) (hZ : ∀ (G : GT) (U : State) (H : Heap), gO G U H → va_Z C0 nm ds (gV G v) (gA G) U H)
    (kk : V K d cl sl Q (pc + 3) L (v :: st) n mi mr) : V K d cl sl Q pc L st n mi mr := by
  intro G p l e R s m args below meth c Z mc ms C hR H locs cells slots ls hH hS hc hs hl
  exact va_getsN (ref := C0) C.1 C.2.1 (hZ G s s.heap C.2.2.2.2.2.2.2.1.2.2.2.2) hS C.2.2.2.1 (nest_use (nestL_ok _ hw) (C.2.2.2.2.2.2.2.1.2.1 _ hw)) (fun x h => h) hd (kk G p l e R s m args below meth c Z mc ms C hR H locs cells slots ls hH hS hc hs hl)
theorem V_getsFmt {index : Nat} (hd : decode K.2.1 pc = .ok (.getstatic index, 3)) (hw : Cond.fieldLink K.1.cls index "jdk/internal/util/Preconditions" "SIOOBE_FORMATTER" "Ljava/util/function/BiFunction;" ∈ TBL)
    (kk : ∀ v : Value, v.category = 1 → V K d cl sl Q (pc + 3) L (v :: st) n mi mr) : V K d cl sl Q pc L st n mi mr := by
  intro G p l e R s m args below meth c Z mc ms C hR H locs cells slots ls hH hS hc hs hl
  rcases C.2.2.2.2.2.2.2.1.2.2.2.2.2.2.2.2.1 with h | h
  · exact va_gets (v := .null) C.1 C.2.1 h hS C.2.2.2.1 (C.2.2.2.2.1 _ hw) (fun x h => h) hd (kk .null rfl G p l e R s m args below meth c Z mc ms C hR H locs cells slots ls hH hS hc hs hl)
  · exact va_gets (v := .ref (G.1 3)) C.1 C.2.1 h hS C.2.2.2.1 (C.2.2.2.2.1 _ hw) (fun x h => h) hd (kk (.ref 3) rfl G p l e R s m args below meth c Z mc ms C hR H locs cells slots ls hH hS hc hs hl)
theorem V_ialdO {a len : Nat} {i : Int32} {f : Nat → Int32} (j : Nat) (hd : decode K.2.1 pc = .ok (.iaload, 1)) (ha : a < 32) (hT : ∀ (G : GT) (U : State) (H : Heap), gO G U H → va_T .int (G.1 a) len (fun j => .int (f j)) (gA G) U H) (hj : i.toInt = (j : Int)) (hlt : j < len)
    (kk : V K d cl sl Q (pc + 1) L (.int (f j) :: st) n mi mr) : V K d cl sl Q pc L (.int i :: .ref a :: st) n mi mr := by
  intro G p l e R s m args below meth c Z mc ms C hR H locs cells slots ls hH hS hc hs hl
  have k2 := kk G p l e R s m args below meth c Z mc ms C hR H locs cells slots ls hH hS hc hs hl
  have hT2 := hT G s s.heap C.2.2.2.2.2.2.2.1.2.2.2.2
  rw [← gAd_old G ha] at hT2
  exact va_ti C.1 C.2.1 hT2 hS (vp_in_j hj hlt) (by rw [nat_of_toInt hj]; rfl) hd k2
theorem V_scr {len : Nat} {i : Int32} (j : Nat) (hd : decode K.2.1 pc = .ok (.iaload, 1)) (hlen : mr 0 0 = some len) (hj : i.toInt = (j : Int)) (hlt : j < len)
    (kk : V K d cl sl Q (pc + 1) L (.int (mi 0 j) :: st) n mi mr) : V K d cl sl Q pc L (.int i :: .ref 0 :: st) n mi mr := by
  intro G p l e R s m args below meth c Z mc ms C hR H locs cells slots ls hH hS hc hs hl
  have k2 := kk G p l e R s m args below meth c Z mc ms C hR H locs cells slots ls hH hS hc hs hl
  have hT2 := C.2.2.2.2.2.2.2.1.2.2.2.2.1
  rw [← gAd_old G (show 0 < 32 by omega), hH.2.2.2.1] at hT2
  have hle : gLen G = len := Option.some.inj (hH.2.2.2.2.symm.trans hlen)
  rw [hle] at hT2
  exact va_ti C.1 C.2.1 hT2 hS (vp_in_j hj hlt) (by rw [nat_of_toInt hj]; rfl) hd k2
theorem V_scrLen {len : Nat} (hd : decode K.2.1 pc = .ok (.arraylength, 1)) (hlen : mr 0 0 = some len)
    (kk : V K d cl sl Q (pc + 1) L (.int (Int32.ofNat len) :: st) n mi mr) : V K d cl sl Q pc L (.ref 0 :: st) n mi mr := by
  intro G p l e R s m args below meth c Z mc ms C hR H locs cells slots ls hH hS hc hs hl
  have k2 := kk G p l e R s m args below meth c Z mc ms C hR H locs cells slots ls hH hS hc hs hl
  have hT2 := C.2.2.2.2.2.2.2.1.2.2.2.2.1
  rw [← gAd_old G (show 0 < 32 by omega)] at hT2
  have hle : gLen G = len := Option.some.inj (hH.2.2.2.2.symm.trans hlen)
  rw [hle] at hT2
  exact va_tlen C.1 C.2.1 hT2 hS rfl hd k2
theorem V_ldcs {index k : Nat} {tx : String} (hd : decode K.2.1 pc = .ok (.ldc index, 2)) (hZ : ∀ (G : GT) (U : State), gR G U → vk_R K.1.cls index tx (G.1 (4 + k)) U) (hk : k < 8)
    (kk : V K d cl sl Q (pc + 2) L (.ref (4 + k) :: st) n mi mr) : V K d cl sl Q pc L st n mi mr := by
  intro G p l e R s m args below meth c Z mc ms C hR H locs cells slots ls hH hS hc hs hl
  have k2 := kk G p l e R s m args below meth c Z mc ms C hR H locs cells slots ls hH hS hc hs hl
  have hZ2 := hZ G s C.2.2.2.2.2.2.2.1.2.2.2.1
  rw [← gAd_old G (show 4 + k < 32 by omega)] at hZ2
  exact va_ldcS C.1 C.2.1 C.2.2.2.1 hZ2 hd k2
theorem V_sval {index k : Nat} (hd : decode K.2.1 pc = .ok (.getfield index, 3)) (hw : Cond.fieldLink K.1.cls index "java/lang/String" "value" "[B" ∈ TBL) (hk : k < 8)
    (kk : V K d cl sl Q (pc + 3) L (.ref (16 + k) :: st) n mi mr) : V K d cl sl Q pc L (.ref (4 + k) :: st) n mi mr := by
  intro G p l e R s m args below meth c Z mc ms C hR H locs cells slots ls hH hS hc hs hl
  have k2 := kk G p l e R s m args below meth c Z mc ms C hR H locs cells slots ls hH hS hc hs hl
  have h := (C.2.2.2.2.2.2.2.1.2.2.2.2.2.2.2.2.2.1 k hk).2.2.1
  simp only at h
  rw [← gAd_old G (show 4 + k < 32 by omega), ← gAd_old G (show 16 + k < 32 by omega)] at h
  exact vk_getf C.1 C.2.1 h hS C.2.2.2.1 (C.2.2.2.2.1 _ hw) (fun x h => h) hd k2
theorem V_scod {index k : Nat} (hd : decode K.2.1 pc = .ok (.getfield index, 3)) (hw : Cond.fieldLink K.1.cls index "java/lang/String" "coder" "B" ∈ TBL) (hk : k < 8)
    (kk : V K d cl sl Q (pc + 3) L (.int 0 :: st) n mi mr) : V K d cl sl Q pc L (.ref (4 + k) :: st) n mi mr := by
  intro G p l e R s m args below meth c Z mc ms C hR H locs cells slots ls hH hS hc hs hl
  have k2 := kk G p l e R s m args below meth c Z mc ms C hR H locs cells slots ls hH hS hc hs hl
  have h := (C.2.2.2.2.2.2.2.1.2.2.2.2.2.2.2.2.2.1 k hk).2.1
  simp only at h
  rw [← gAd_old G (show 4 + k < 32 by omega)] at h
  exact vk_getf C.1 C.2.1 h hS C.2.2.2.1 (C.2.2.2.2.1 _ hw) (fun x h => h) hd k2
theorem V_baldO {k : Nat} {i : Int32} (j : Nat) (hd : decode K.2.1 pc = .ok (.baload, 1)) (hk : k < 8) (hj : i.toInt = (j : Int)) (hlt : j < gSL.getD k 0)
    (kk : V K d cl sl Q (pc + 1) L (.int ((gSB.getD k []).getD j 0) :: st) n mi mr) : V K d cl sl Q pc L (.int i :: .ref (16 + k) :: st) n mi mr := by
  intro G p l e R s m args below meth c Z mc ms C hR H locs cells slots ls hH hS hc hs hl
  have k2 := kk G p l e R s m args below meth c Z mc ms C hR H locs cells slots ls hH hS hc hs hl
  have h := (C.2.2.2.2.2.2.2.1.2.2.2.2.2.2.2.2.2.1 k hk).2.2.2
  simp only at h
  rw [← gAd_old G (show 16 + k < 32 by omega)] at h
  exact va_tb C.1 C.2.1 h hS (vp_in_j hj hlt) (by rw [nat_of_toInt hj]; rfl) hd k2
theorem V_alenO {k : Nat} (hd : decode K.2.1 pc = .ok (.arraylength, 1)) (hk : k < 8)
    (kk : V K d cl sl Q (pc + 1) L (.int (Int32.ofNat (gSL.getD k 0)) :: st) n mi mr) : V K d cl sl Q pc L (.ref (16 + k) :: st) n mi mr := by
  intro G p l e R s m args below meth c Z mc ms C hR H locs cells slots ls hH hS hc hs hl
  have k2 := kk G p l e R s m args below meth c Z mc ms C hR H locs cells slots ls hH hS hc hs hl
  have h := (C.2.2.2.2.2.2.2.1.2.2.2.2.2.2.2.2.2.1 k hk).2.2.2
  simp only at h
  rw [← gAd_old G (show 16 + k < 32 by omega)] at h
  exact va_tlen C.1 C.2.1 h hS rfl hd k2
end CC
