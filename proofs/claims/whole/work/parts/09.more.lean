/-! new rows of objects, grids, Math, arraycopy, calls over V -/
theorem gHA {G : GT} {s : State} (h : gS0 G ≤ s.heap.size) : ∀ q, s.heap.size ≤ q → gA G q := fun q hq => Nat.le_trans h hq
theorem vr_outer (c : ClassId) (N h0 : Nat) : ∀ i : Nat, Jvm.Free.Multi.outerC c N h0 i = arrV c N (fun j => va_rf (if j < i then some (h0 + 1 + j) else none))
  | 0 => by
    show ({ cls := c, slots := Array.replicate N .null, vm := .none } : Cell) = _
    rw [arrV_new]
    refine congrArg (arrV c N) (funext fun j => ?_)
    simp [va_rf]
  | i + 1 => by
    show (Jvm.Free.Multi.outerC c N h0 i).setSlot i (.ref (h0 + 1 + i)) = _
    rw [vr_outer c N h0 i, arrV_store]
    refine congrArg (arrV c N) (funext fun j => ?_)
    by_cases e : j = i
    · subst e
      simp [updV, va_rf]
    · by_cases h : j < i
      · simp [updV, e, h, Nat.lt_succ_of_lt h]
      · simp [updV, e, h, show ¬ j < i + 1 by omega]
section CA
variable {K : KT} {d cl sl : Nat} {Q : QT} {pc : Nat} {L : List (Option Value)} {st : List Value} {n : Nat} {mi : MI} {mr : MR}
theorem V_newq {t len index : Nat} {E : String} {x : Int32} {cl' sl' : Nat} (hd : decode K.2.1 pc = .ok (.anewarray index, 3)) (hsh : SH n = .inr (t, len)) (ht : t = 4 ∧ E = "DrunkByYear$Village" ∨ t = 5 ∧ E = "DrunkByYear$Person") (hw : Cond.classLink K.1.cls index E ∈ TBL) (hx : x.toInt = (len : Int)) (hb : len * 4 ≤ 536870912) (hcl : cl = cl' + 1) (hsl : sl = sl' + len)
    (kk : V K d cl' sl' Q (pc + 3) L (.ref n :: st) (n + 1) (mi0 mi n) (mr0 mr n)) : V K d cl sl Q pc L (.int x :: st) n mi mr := by
  intro G p l e R s m args below meth c Z mc ms C hR H locs cells slots ls hH hS hc hs hl
  have hts := C.2.2.2.2.1
  have hRm := C.2.2.2.2.2.1
  have hx0 : ¬ x < 0 := fun h => by
    rw [Int32.lt_iff_toInt_lt, Int32.toInt_zero] at h
    omega
  have hxn := nat_of_toInt hx
  have hE : gTy t = .object E := by rcases ht with ⟨rfl, rfl⟩ | ⟨rfl, rfl⟩ <;> rfl
  have hov : (Cond.arrayOver (.object E)).before args s = true := by
    rcases ht with ⟨rfl, rfl⟩ | ⟨rfl, rfl⟩
    · exact va_AO.use C.2.2.2.2.2.2.2.1.2.2.1.1
    · exact va_AO.use C.2.2.2.2.2.2.2.1.2.2.1.2.1
  refine W.anew C.1 C.2.1 C.2.2.2.1 (hts _ hw) hov rfl hd rfl hx0 (by rw [hxn]; exact hb) (by omega) (by rw [hxn]; omega) fun cA kA comp f1 f2 f3 f4 => ?_
  rw [hxn]
  generalize hH1 : H.push ({ cls := cA, slots := Array.replicate len .null, vm := .none } : Cell) = H1
  have z1 : H1.size = H.size + 1 := by rw [← hH1, Array.size_push]
  have e1 : H1[H.size]? = some (arrV cA len (fun _ => .null)) := by rw [← hH1, Array.getElem?_push_size, ← arrV_new]
  have o1 : ∀ q : Nat, q < H.size → H1[q]? = H[q]? := fun q hq => by rw [← hH1, Array.getElem?_push, if_neg (Nat.ne_of_lt hq)]
  have hcA : cA = gC G t := by
    have h1 := (C.2.2.2.2.2.2.2.1.1.2 t _ (gTys_at G (by omega))).2
    simp only at h1
    rw [hE] at h1
    obtain ⟨_, _, _, _, _, h4⟩ := h1
    exact Option.some.inj (f1.symm.trans h4)
  have hn := gAd_own G hH.1
  rw [← hH.2.1] at hn
  have k2 := kk G p l e R s m args below meth c Z mc ms C hR H1 locs (cells + 1) (slots + len) ls (hH.push z1 o1 ?_) (hS.push (by omega) o1) (by omega) (by omega) hl
  · show W p l e R s m args below meth c H1 locs (cells + 1) (slots + len) Z (F0 m (pc + 3) ls (.ref H.size :: st.map (gV G)))
    rw [← hn]
    exact k2
  · rw [gE_arq hsh (by omega)]
    show H1[H.size]? = some (vp_cell _ _)
    rw [e1, hcA, vp_cell_q]
    congr 2
    funext j
    rw [mr0_s]
    rfl
def miR (mi : MI) (n k : Nat) : MI := fun i j => if n ≤ i ∧ i < n + k then 0 else mi i j
def mrG (mr : MR) (n k : Nat) : MR := fun i j => if i = n then (if j < k then some (n + 1 + j) else none) else if n ≤ i ∧ i < n + 1 + k then none else mr i j
/-- a new grid of numbers -/
theorem V_multi {N M index : Nat} {x y : Int32} {cl' sl' : Nat} (hd : decode K.2.1 pc = .ok (.multianewarray index 2, 4)) (hsh : SH n = .inr (3, N)) (hsr : ∀ j, j < N → SH (n + 1 + j) = .inr (0, M)) (hw : Cond.classLink K.1.cls index "[[I" ∈ TBL) (hw2 : Cond.arrayClass .int ∈ TBL) (hx : x.toInt = (N : Int)) (hy : y.toInt = (M : Int)) (hN : N ≤ 1000) (hM : M ≤ 1000) (hcl : cl = cl' + (1 + N)) (hsl : sl = sl' + (N + N * M))
    (kk : V K d cl' sl' Q (pc + 4) L (.ref n :: st) (n + 1 + N) (miR mi n (1 + N)) (mrG mr n N)) : V K d cl sl Q pc L (.int y :: .int x :: st) n mi mr := by
  intro G p l e R s m args below meth c Z mc ms C hR H locs cells slots ls hH hS hc hs hl
  have hts := C.2.2.2.2.1
  have hRm := C.2.2.2.2.2.1
  have neg : ∀ {z : Int32} {k : Nat}, z.toInt = (k : Int) → ¬ z < 0 := fun hz h => by
    rw [Int32.lt_iff_toInt_lt, Int32.toInt_zero] at h
    omega
  have hxn := nat_of_toInt hx
  have hyn := nat_of_toInt hy
  have hov := C.2.2.2.2.2.2.2.1.2.2.1.2.2
  have hov' : (Cond.arrayOver (.array .int)).before args s = true := arrayOver_alikeB (Vm.Alike.refl s.vm) hov
  intro T hT Xs
  obtain ⟨vm₁, cA, comp, -, fA, fC, hO, hI, X', step⟩ := Xs.multianewarray2F C.1 (ty := .int) C.2.2.2.1 (hts _ hw) hov' (hts _ hw2) (g := F0 m pc ls (.int y :: .int x :: st.map (gV G))) rfl (by rw [C.2.1]; exact hd) rfl (neg hx) (neg hy) (by rw [hxn]; omega) (by rw [hyn]; show M * 4 ≤ _; omega) (by rw [hyn]; omega) rfl rfl (by rw [hxn]; omega) (by rw [hxn, hyn]; omega)
  rw [hxn, hyn] at X' step
  generalize hF : Jvm.Free.Multi.fill (T.setVm vm₁) cA comp N M (defaultValue .int) N = F at X' step
  have hTh : (T.setVm vm₁).heap = H := hT
  obtain ⟨f1, f2, -, -⟩ := Jvm.Free.Multi.fill_facts (T.setVm vm₁) cA comp N M (defaultValue .int) N
  rw [hF, hTh] at f1 f2
  have hold : ∀ q : Nat, q < H.size → F.heap[q]? = H[q]? := fun q hq => by
    have := Jvm.Free.Multi.fill_old (T.setVm vm₁) cA comp N M (defaultValue .int) (a := q) (by rw [hTh]; exact hq) N
    rw [hF, hTh] at this
    exact this
  have hrow : ∀ j : Nat, j < N → F.heap[H.size + 1 + j]? = some (Jvm.Free.Multi.innerC comp M (defaultValue .int)) := fun j hj => by
    have := Jvm.Free.Multi.fill_inner (T.setVm vm₁) cA comp N M (defaultValue .int) N j hj
    rw [hF, hTh] at this
    exact this
  have c0 : comp = gC G 0 := Option.some.inj (fC.symm.trans (C.2.2.2.2.2.2.2.1.1.2 0 _ (gTys_at G (by decide))).2)
  have c3 : cA = gC G 3 := Option.some.inj (fA.symm.trans (C.2.2.2.2.2.2.2.1.1.2 3 _ (gTys_at G (by decide))).2)
  have hout : Jvm.Free.Multi.outerC cA N H.size N = vp_cell cA (N, .inr (.inr (.inr (.inr (fun i => if i < N then some (H.size + 1 + i) else none))))) := by
    rw [vp_cell_q]
    exact vr_outer cA N H.size N
  rw [hout] at f2
  have h32 := hH.1
  have hsz := hH.2.1
  have hn := gAd_own G hH.1
  rw [← hsz] at hn
  have hGH : gH G (n + 1 + N) (miR mi n (1 + N)) (mrG mr n N) F.heap := by
    refine ⟨by omega, by rw [f1]; omega, fun i h1 h2 => ?_, ?_, ?_⟩
    · by_cases e0 : i < n
      · rw [gE_same (mi := mi) (mr := mr) (by funext j; simp only [miR]; rw [if_neg (by omega)]) (by funext j; simp only [mrG]; rw [if_neg (by omega), if_neg (by omega)])]
        refine (hH.2.2.1 i h1 e0).kept (hold _ ?_)
        show gAd G i < H.size
        rw [gAd_own G h1]
        omega
      · by_cases e1 : i = n
        · subst e1
          rw [gE_arq hsh (by decide), hn]
          show F.heap[H.size]? = some (vp_cell _ _)
          rw [f2, c3]
          congr 7
          funext j
          simp only [mrG, if_pos rfl]
          by_cases hj : j < N
          · rw [if_pos hj, if_pos hj]
            show some _ = some (gAd G (i + 1 + j))
            rw [gAd_own G (by omega), hsz]
            congr 1
            omega
          · rw [if_neg hj, if_neg hj]
            rfl
        · have hj : i - (n + 1) < N := by omega
          have hs2 := hsr _ hj
          rw [show n + 1 + (i - (n + 1)) = i by omega] at hs2
          rw [gE_arr hs2 (by decide), gAd_own G h1]
          show F.heap[gS0 G + (i - 32)]? = some (vp_cell _ _)
          have h9 := hrow _ hj
          rw [show H.size + 1 + (i - (n + 1)) = gS0 G + (i - 32) by omega] at h9
          rw [h9, c0, vp_cell_i]
          show some ({ cls := gC G 0, slots := Array.replicate M (defaultValue .int), vm := .none } : Cell) = _
          rw [arrV_new]
          congr 2
          funext j
          simp only [miR]
          rw [if_pos (by omega)]
          rfl
    · rw [hH.2.2.2.1]
      funext j
      simp only [miR]
      rw [if_neg (by omega)]
    · simp only [mrG]
      rw [if_neg (by omega), if_neg (by omega)]
      exact hH.2.2.2.2
  obtain ⟨t, a1, b1⟩ := kk G p l e R s m args below meth c Z mc ms C hR F.heap locs (cells + 1 + N) (slots + N + N * M) ls hGH (hS.push (by rw [f1]; omega) hold) (by omega) (by omega) hl F rfl X'
  refine ⟨t, step t ?_, b1⟩
  have e : T.heap.size = H.size := by rw [hT]
  rw [e, ← hn]
  exact a1
/-- Math.max, min, abs -/
theorem V_max {index : Nat} {x y : Int32} (hd : decode K.2.1 pc = .ok (.invokestatic index, 3)) (hw : Cond.methodLink K.1.cls index Lib.Math.max.name ∈ TBL) (hw2 : Cond.static Lib.Math.max.name ∈ TBL) (hw3 : Cond.initialized "java/lang/Math" ∈ TBL) (hw4 : Cond.code Lib.Math.max.name Lib.Math.max.code 2 (some .int) ∈ TBL) (hdd : 1 ≤ d) (hst : (st.map fun v => v.category).sum ≤ 40)
    (kk : V K d cl sl Q (pc + 3) L (.int (if x < y then y else x) :: st) n mi mr) : V K d cl sl Q pc L (.int y :: .int x :: st) n mi mr := by
  intro G p l e R s m args below meth c Z mc ms C hR H locs cells slots ls hH hS hc hs hl
  have hts := C.2.2.2.2.1
  have hRm := C.2.2.2.2.2.1
  exact va_mmax C.1 C.2.1 (C.2.2.1.trans hl.1.symm) C.2.2.2.1 (hts _ hw) (hts _ hw2) (hts _ hw3) (hts _ hw4) (by omega) (by rw [List.map_map, show ((fun v : Value => v.category) ∘ gV G) = (fun v : Value => v.category) from funext (gV_cat G)]; omega) (by omega) (by omega) hd (kk G p l e R s m args below meth c Z mc ms C hR H locs cells slots ls hH hS hc hs hl)
theorem V_min {index : Nat} {x y : Int32} (hd : decode K.2.1 pc = .ok (.invokestatic index, 3)) (hw : Cond.methodLink K.1.cls index Lib.Math.min.name ∈ TBL) (hw2 : Cond.static Lib.Math.min.name ∈ TBL) (hw3 : Cond.initialized "java/lang/Math" ∈ TBL) (hw4 : Cond.code Lib.Math.min.name Lib.Math.min.code 2 (some .int) ∈ TBL) (hdd : 1 ≤ d) (hst : (st.map fun v => v.category).sum ≤ 40)
    (kk : V K d cl sl Q (pc + 3) L (.int (if y < x then y else x) :: st) n mi mr) : V K d cl sl Q pc L (.int y :: .int x :: st) n mi mr := by
  intro G p l e R s m args below meth c Z mc ms C hR H locs cells slots ls hH hS hc hs hl
  have hts := C.2.2.2.2.1
  have hRm := C.2.2.2.2.2.1
  exact va_mmin C.1 C.2.1 (C.2.2.1.trans hl.1.symm) C.2.2.2.1 (hts _ hw) (hts _ hw2) (hts _ hw3) (hts _ hw4) (by omega) (by rw [List.map_map, show ((fun v : Value => v.category) ∘ gV G) = (fun v : Value => v.category) from funext (gV_cat G)]; omega) (by omega) (by omega) hd (kk G p l e R s m args below meth c Z mc ms C hR H locs cells slots ls hH hS hc hs hl)
theorem V_abs {index : Nat} {x : Int32} (hd : decode K.2.1 pc = .ok (.invokestatic index, 3)) (hw : Cond.methodLink K.1.cls index Lib.Math.abs.name ∈ TBL) (hw2 : Cond.static Lib.Math.abs.name ∈ TBL) (hw3 : Cond.initialized "java/lang/Math" ∈ TBL) (hw4 : Cond.code Lib.Math.abs.name Lib.Math.abs.code 1 (some .int) ∈ TBL) (hdd : 1 ≤ d) (hst : (st.map fun v => v.category).sum ≤ 40)
    (kk : V K d cl sl Q (pc + 3) L (.int (if 0 ≤ x then x else 0 - x) :: st) n mi mr) : V K d cl sl Q pc L (.int x :: st) n mi mr := by
  intro G p l e R s m args below meth c Z mc ms C hR H locs cells slots ls hH hS hc hs hl
  have hts := C.2.2.2.2.1
  have hRm := C.2.2.2.2.2.1
  exact va_mabs C.1 C.2.1 (C.2.2.1.trans hl.1.symm) C.2.2.2.1 (hts _ hw) (hts _ hw2) (hts _ hw3) (hts _ hw4) (by omega) (by rw [List.map_map, show ((fun v : Value => v.category) ∘ gV G) = (fun v : Value => v.category) from funext (gV_cat G)]; omega) (by omega) (by omega) hd (kk G p l e R s m args below meth c Z mc ms C hR H locs cells slots ls hH hS hc hs hl)
/-- java.lang.Object's constructor -/
theorem V_objInit {index a : Nat} (hd : decode K.2.1 pc = .ok (.invokespecial index, 3)) (hw : Cond.methodLink K.1.cls index Lib.objectInit ∈ TBL) (hw2 : Cond.instanceMethod Lib.objectInit ∈ TBL) (hw3 : Cond.code Lib.objectInit ⟨#[0xb1]⟩ 1 none ∈ TBL) (hdd : 1 ≤ d) (hst : (st.map fun v => v.category).sum ≤ 40)
    (kk : V K d cl sl Q (pc + 3) L st n mi mr) : V K d cl sl Q pc L (.ref a :: st) n mi mr := by
  intro G p l e R s m args below meth c Z mc ms C hR H locs cells slots ls hH hS hc hs hl
  have hts := C.2.2.2.2.1
  have hRm := C.2.2.2.2.2.1
  exact W.objInit C.1 C.2.1 C.2.2.2.1 (hts _ hw) (hts _ hw2) (hts _ hw3) (g := F0 m pc ls (.ref (gAd G a) :: st.map (gV G))) rfl (hl.1.trans C.2.2.1.symm) rfl hd (by omega) (by show 2 * 0 + _ + 12 ≤ _; rw [List.map_map, show ((fun v : Value => v.category) ∘ gV G) = (fun v : Value => v.category) from funext (gV_cat G)]; omega) (kk G p l e R s m args below meth c Z mc ms C hR H locs cells slots ls hH hS hc hs hl)
def cp2 (mi : MI) (src dst len : Nat) : MI := fun i j => if i = dst ∧ j < len then mi src j else mi i j
/-- System.arraycopy of a whole array of numbers -/
theorem V_copy {index a0 a t len : Nat} {x : Int32} (hd : decode K.2.1 pc = .ok (.invokestatic index, 3)) (hw : Cond.methodLink K.1.cls index arraycopyName ∈ TBL) (hw2 : Cond.native arraycopyName ∈ TBL) (hw3 : Cond.static arraycopyName ∈ TBL) (hw4 : Cond.initialized "java/lang/System" ∈ TBL) (hsh0 : SH a0 = .inr (t, len)) (hsh : SH a = .inr (t, len)) (ht : t < 3) (ha0 : 32 ≤ a0 ∧ a0 < n) (ha : 32 ≤ a ∧ a < n) (hx : x.toInt = (len : Int)) (hlen : len < 2 ^ 30) (hfit : ∀ j, j < len → fits (gTy t) (.int (mi a0 j)) = true) (hdd : 1 ≤ d) (hst : (st.map fun v => v.category).sum ≤ 20)
    (kk : V K d cl sl Q (pc + 3) L st n (cp2 mi a0 a len) mr) : V K d cl sl Q pc L (.int x :: .int 0 :: .ref a :: .int 0 :: .ref a0 :: st) n mi mr := by
  intro G p l e R s m args below meth c Z mc ms C hR H locs cells slots ls hH hS hc hs hl
  have hts := C.2.2.2.2.1
  have hRm := C.2.2.2.2.2.1
  have hK := C.2.2.2.2.2.2.2.1.1
  have hc0' := hH.at ha0
  have hc1' := hH.at ha
  rw [gE_arr hsh0 ht] at hc0'
  rw [gE_arr hsh ht] at hc1'
  have hc0 : H[gAd G a0]? = some (vp_cell (gC G t) (len, .inl (mi a0))) := hc0'
  have hc1 : H[gAd G a]? = some (vp_cell (gC G t) (len, .inl (mi a))) := hc1'
  have hxn := nat_of_toInt hx
  have hx0 : ¬ x < 0 := fun h => by
    rw [Int32.lt_iff_toInt_lt, Int32.toInt_zero] at h
    omega
  have h00 : ¬ (0 : Int32) < 0 := by decide
  have hz0 : (0 : Int32).toNatClampNeg = 0 := by decide
  intro T hT X
  obtain ⟨-, k0, hk0, cm0, hkk0⟩ := (hK.2 t _ (gTys_at G (by omega))).1 len (fun j => .int (mi a0 j))
  obtain ⟨-, k1, hk1, cm1, hkk1⟩ := (hK.2 t _ (gTys_at G (by omega))).1 len (fun j => .int (mi a j))
  obtain ⟨vm', X', step⟩ := X.arraycopy C.1 C.2.2.2.1 (hts _ hw) (hts _ hw2) (hts _ hw3) (hts _ hw4) (src := gAd G a0) (dst := gAd G a) (cs := vp_cell (gC G t) (len, .inl (mi a0))) (cd := vp_cell (gC G t) (len, .inl (mi a))) (srcPos := 0) (destPos := 0) (n := x) (by rw [hT]; exact hc0) (by rw [hT]; exact hc1)
    (fun _ h => by cases h) (fun _ h => by cases h) (fun h => by cases h) (fun h => by cases h) hk0 hk1 hkk0 hkk1 (by
      have : refKind (gTy t) = false := by
        match t, ht with
        | 0, _ => rfl
        | 1, _ => rfl
        | 2, _ => rfl
      simp [this]) h00 h00 hx0
    (by rw [hx]; show ¬ (0 : Int) + _ > ((arrV (gC G t) len (fun j => .int (mi a0 j))).slots.size : Int); rw [arrV_size]; omega)
    (by rw [hx]; show ¬ (0 : Int) + _ > ((arrV (gC G t) len (fun j => .int (mi a j))).slots.size : Int); rw [arrV_size]; omega)
    (fun vm₁ _ i hi => by
      rw [hxn] at hi
      have e : (vp_cell (gC G t) (len, .inl (mi a0))).slots.getD ((0 : Int32).toNatClampNeg + i) .null = .int (mi a0 i) := by
        show (arrV (gC G t) len (fun j => .int (mi a0 j))).slots.getD _ _ = _
        rw [hz0, Nat.zero_add, Array.getD_eq_getD_getElem?, arrV_read _ _ (by omega)]
        rfl
      refine ⟨?_, ?_⟩
      · rw [e]
        exact hfit i hi
      · rw [e]
        exact trivial)
    (g := F0 m pc ls (.int x :: .int 0 :: .ref (gAd G a) :: .int 0 :: .ref (gAd G a0) :: st.map (gV G))) rfl (by rw [C.2.2.1, hl.1]) (rest := st.map (gV G)) rfl (by rw [C.2.1]; exact hd) (by omega) (by
      show 2 * 0 + _ + (nativeFrameWords "java/lang/System" "arraycopy" 5 + 11) ≤ _
      rw [List.map_map, show ((fun v : Value => v.category) ∘ gV G) = (fun v : Value => v.category) from funext (gV_cat G), show nativeFrameWords "java/lang/System" "arraycopy" 5 = 7 from rfl]
      omega)
  have e1 : copied (vp_cell (gC G t) (len, .inl (mi a0))) (vp_cell (gC G t) (len, .inl (mi a))) 0 0 x = vp_cell (gC G t) (len, .inl (va_cpy (mi a0) (mi a) (0 : Int32).toNatClampNeg (0 : Int32).toNatClampNeg x.toNatClampNeg)) := va_copied (fun z => .int z) (gC G t) (gC G t) (mi a0) (mi a) (by rw [hz0, hxn]; omega)
  rw [e1, hz0, hxn] at X' step
  have hl1 : gAd G a < H.size := (Array.getElem?_eq_some_iff.mp hc1).1
  have hheap : ((T.setVm vm').setCell (gAd G a) (vp_cell (gC G t) (len, .inl (va_cpy (mi a0) (mi a) 0 0 len)))).heap = H.setIfInBounds (gAd G a) (vp_cell (gC G t) (len, .inl (va_cpy (mi a0) (mi a) 0 0 len))) := by rw [← hT]; rfl
  have oq : ∀ q : Nat, q ≠ gAd G a → (H.setIfInBounds (gAd G a) (vp_cell (gC G t) (len, .inl (va_cpy (mi a0) (mi a) 0 0 len))))[q]? = H[q]? := fun q hq => by simp [Array.getElem?_setIfInBounds, Ne.symm hq]
  have hput : gH G n (cp2 mi a0 a len) mr (H.setIfInBounds (gAd G a) (vp_cell (gC G t) (len, .inl (va_cpy (mi a0) (mi a) 0 0 len)))) := by
    refine hH.put ha (by simp) oq ?_ (fun i hi => ⟨by funext j; simp [cp2, hi], rfl⟩)
    rw [gE_arr hsh ht]
    show (H.setIfInBounds (gAd G a) _)[gAd G a]? = some (vp_cell _ _)
    rw [Array.getElem?_setIfInBounds, if_pos rfl, if_pos hl1]
    congr 4
    funext j
    simp [va_cpy, cp2]
  obtain ⟨t2, a1, b1⟩ := kk G p l e R s m args below meth c Z mc ms C hR _ _ cells slots ls hput ⟨by simp; exact hS.1, fun q g1 g2 => by
      rw [oq q (fun e => g2 (by rw [e]; exact gAd_A G ha.1))]
      exact hS.2.1 q g1 g2, fun q hq => by
      rcases List.mem_append.mp hq with h | h
      · exact hS.2.2 q h
      · obtain ⟨z, -, hz⟩ := List.mem_map.mp h
        rw [← hz]
        exact gAd_A G ha.1⟩ hc hs hl _ hheap X'
  exact ⟨t2, step t2 a1, b1⟩
end CA
