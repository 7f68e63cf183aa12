section INS
variable {K : KT} {d cl sl : Nat} {Q : QT} {pc : Nat} {L : List (Option Value)} {st : List Value} {n : Nat} {mi : MI} {mr : MR}
/-- the local before i isn't a long that reaches into i -/
def okSt (L : List (Option Value)) (i : Nat) : Bool := match i with
  | 0 => true
  | j + 1 => match L[j]? with
    | some (some (.long _)) => false
    | some (some (.double _)) => false
    | _ => true
theorem gV_cat2 {L : List (Option Value)} {i j : Nat} {w : Value} (ho : okSt L i = true) (h : L[j]? = some (some w)) (hj : j + 1 = i) : w.category ≠ 2 := by
  subst hj
  simp only [okSt, h] at ho
  cases w <;> simp_all [Value.category]
theorem gL_at {G : GT} {ls : Array Slot} {nL : Nat} {L : List (Option Value)} (hl : lv_has ls nL (gL G L)) {i : Nat} {v : Value} (h : L[i]? = some (some v)) : ls[i]? = some (.val (gV G v)) := hl.2.2 (i, gV G v) (gL_in.mpr ⟨v, h, rfl⟩)
theorem gL_set1 {G : GT} {ls : Array Slot} {nL i : Nat} {L : List (Option Value)} {v : Value} {l' : List (Nat × Value)} (hl' : (i, gV G v) :: (gL G L).filter (fun q => !(q.1 == i) && !(q.1 + 1 == i && q.2.category == 2)) = l') (h : lv_has ls nL l') (ho : okSt L i = true) {L' : List (Option Value)} (hL : L.set i (some v) = L') : lv_has ls nL (gL G L') := by
  refine ⟨h.1, h.2.1, ?_⟩
  rintro ⟨j, w⟩ hq
  refine h.2.2 (j, w) ?_
  rw [← hl']
  obtain ⟨u, h1, rfl⟩ := gL_in.mp hq
  rw [← hL] at h1
  by_cases e : i = j
  · subst e
    have hlt := (List.getElem?_eq_some_iff.mp h1).1
    rw [List.getElem?_set_self (by simpa using hlt)] at h1
    cases h1
    exact List.mem_cons_self
  · rw [List.getElem?_set_ne e] at h1
    refine List.mem_cons_of_mem _ (List.mem_filter.mpr ⟨gL_in.mpr ⟨u, h1, rfl⟩, ?_⟩)
    have e1 : (j == i) = false := by simpa using fun q => e q.symm
    have e2 : (j + 1 == i && (gV G u).category == 2) = false := by
      rw [gV_cat]
      by_cases z : j + 1 = i
      · have := gV_cat2 ho h1 z
        simp [this]
      · simp [z]
    show (!(j == i) && !(j + 1 == i && (gV G u).category == 2)) = true
    rw [e1, e2]
    rfl
theorem gL_set2 {G : GT} {ls : Array Slot} {nL i : Nat} {L : List (Option Value)} {v : Value} {l' : List (Nat × Value)} (hl' : (i, gV G v) :: (gL G L).filter (fun q => !(q.1 == i) && (!(q.1 == i + 1) && !(q.1 + 1 == i && q.2.category == 2))) = l') (h : lv_has ls nL l') (ho : okSt L i = true) {L' : List (Option Value)} (hL : (L.set i (some v)).set (i + 1) none = L') : lv_has ls nL (gL G L') := by
  refine ⟨h.1, h.2.1, ?_⟩
  rintro ⟨j, w⟩ hq
  refine h.2.2 (j, w) ?_
  rw [← hl']
  obtain ⟨u, h1, rfl⟩ := gL_in.mp hq
  rw [← hL] at h1
  by_cases e0 : i + 1 = j
  · subst e0
    have hlt := (List.getElem?_eq_some_iff.mp h1).1
    rw [List.getElem?_set_self (by simpa using hlt)] at h1
    cases h1
  rw [List.getElem?_set_ne e0] at h1
  by_cases e : i = j
  · subst e
    have hlt := (List.getElem?_eq_some_iff.mp h1).1
    rw [List.getElem?_set_self (by simpa using hlt)] at h1
    cases h1
    exact List.mem_cons_self
  · rw [List.getElem?_set_ne e] at h1
    refine List.mem_cons_of_mem _ (List.mem_filter.mpr ⟨gL_in.mpr ⟨u, h1, rfl⟩, ?_⟩)
    have e1 : (j == i) = false := by simpa using fun q => e q.symm
    have e3 : (j == i + 1) = false := by simpa using fun q => e0 q.symm
    have e2 : (j + 1 == i && (gV G u).category == 2) = false := by
      rw [gV_cat]
      by_cases z : j + 1 = i
      · have := gV_cat2 ho h1 z
        simp [this]
      · simp [z]
    show (!(j == i) && (!(j == i + 1) && !(j + 1 == i && (gV G u).category == 2))) = true
    rw [e1, e2, e3]
    rfl
/-- the same place with fewer locals, in another writing -/
theorem V.eq {L' : List (Option Value)} {st' : List Value} {pc' n' : Nat} {mi' : MI} {mr' : MR} (h : V K d cl sl Q pc' L' st' n' mi' mr') (h1 : pc' = pc) (h2 : L' = L) (h3 : st' = st) (h4 : n' = n) (h5 : mi' = mi) (h6 : mr' = mr) : V K d cl sl Q pc L st n mi mr := by
  subst h1 h2 h3 h4 h5 h6
  exact h
theorem V.sub {L' : List (Option Value)} (hL : ∀ (i : Nat) (v : Value), L'[i]? = some (some v) → L[i]? = some (some v)) (h : V K d cl sl Q pc L' st n mi mr) : V K d cl sl Q pc L st n mi mr := by
  intro G p l e R s m args below meth c Z mc ms C hR H locs cells slots ls hH hS hc hs hl
  refine h G p l e R s m args below meth c Z mc ms C hR H locs cells slots ls hH hS hc hs ⟨hl.1, hl.2.1, ?_⟩
  rintro ⟨i, v⟩ hq
  obtain ⟨w, h1, rfl⟩ := gL_in.mp hq
  exact hl.2.2 (i, gV G w) (gL_in.mpr ⟨w, hL i w h1, rfl⟩)
theorem V.less {cl' sl' : Nat} (h1 : cl' ≤ cl) (h2 : sl' ≤ sl) (h : V K d cl' sl' Q pc L st n mi mr) : V K d cl sl Q pc L st n mi mr :=
  fun G p l e R s m args below meth c Z mc ms C hR H locs cells slots ls hH hS hc hs hl => h G p l e R s m args below meth c Z mc ms C hR H locs cells slots ls hH hS (by omega) (by omega) hl
theorem V_iconst {i : Int} {v : Int32} (hd : decode K.2.1 pc = .ok (.iconst i, 1)) (hv : Int32.ofInt i = v) (k : V K d cl sl Q (pc + 1) L (.int v :: st) n mi mr) : V K d cl sl Q pc L st n mi mr := by
  intro G p l e R s m args below meth c Z mc ms C hR H locs cells slots ls hH hS hc hs hl
  exact lv_iconst C.1 C.2.1 hd hv (k G p l e R s m args below meth c Z mc ms C hR H locs cells slots ls hH hS hc hs hl)
theorem V_bipush {i : Int} {v : Int32} (hd : decode K.2.1 pc = .ok (.bipush i, 2)) (hv : (Int8.ofInt i).toInt32 = v) (k : V K d cl sl Q (pc + 2) L (.int v :: st) n mi mr) : V K d cl sl Q pc L st n mi mr := by
  intro G p l e R s m args below meth c Z mc ms C hR H locs cells slots ls hH hS hc hs hl
  exact lv_bipush C.1 C.2.1 hd hv (k G p l e R s m args below meth c Z mc ms C hR H locs cells slots ls hH hS hc hs hl)
theorem V_sipush {i : Int} {v : Int32} (hd : decode K.2.1 pc = .ok (.sipush i, 3)) (hv : (Int16.ofInt i).toInt32 = v) (k : V K d cl sl Q (pc + 3) L (.int v :: st) n mi mr) : V K d cl sl Q pc L st n mi mr := by
  intro G p l e R s m args below meth c Z mc ms C hR H locs cells slots ls hH hS hc hs hl
  exact lv_sipush C.1 C.2.1 hd hv (k G p l e R s m args below meth c Z mc ms C hR H locs cells slots ls hH hS hc hs hl)
theorem V_lconst {i : Fin 2} {v : Int64} (hd : decode K.2.1 pc = .ok (.lconst i, 1)) (hv : Int64.ofNat (i : Nat) = v) (k : V K d cl sl Q (pc + 1) L (.long v :: st) n mi mr) : V K d cl sl Q pc L st n mi mr := by
  intro G p l e R s m args below meth c Z mc ms C hR H locs cells slots ls hH hS hc hs hl
  exact lv_lconst C.1 C.2.1 hd hv (k G p l e R s m args below meth c Z mc ms C hR H locs cells slots ls hH hS hc hs hl)
theorem V_ldc {i : Nat} {v : Int32} (hd : decode K.2.1 pc = .ok (.ldc i, 2)) (hw : Jvm.Cond.constant K.1.cls i v ∈ TBL) (k : V K d cl sl Q (pc + 2) L (.int v :: st) n mi mr) : V K d cl sl Q pc L st n mi mr := by
  intro G p l e R s m args below meth c Z mc ms C hR H locs cells slots ls hH hS hc hs hl
  exact lv_ldc C.1 C.2.1 C.2.2.2.1 (C.2.2.2.2.1 _ hw) hd (k G p l e R s m args below meth c Z mc ms C hR H locs cells slots ls hH hS hc hs hl)
theorem V_ldc2 {i : Nat} {v : Int64} (hd : decode K.2.1 pc = .ok (.ldc2_w i, 3)) (hw : Jvm.Cond.constantLong K.1.cls i v ∈ TBL) (k : V K d cl sl Q (pc + 3) L (.long v :: st) n mi mr) : V K d cl sl Q pc L st n mi mr := by
  intro G p l e R s m args below meth c Z mc ms C hR H locs cells slots ls hH hS hc hs hl
  exact lv_ldc2 C.1 C.2.1 C.2.2.2.1 (C.2.2.2.2.1 _ hw) hd (k G p l e R s m args below meth c Z mc ms C hR H locs cells slots ls hH hS hc hs hl)
theorem V_iload_n {i : Fin 4} {x : Int32} (hd : decode K.2.1 pc = .ok (.iload_n i, 1)) (hx : L[(i : Nat)]? = some (some (.int x))) (k : V K d cl sl Q (pc + 1) L (.int x :: st) n mi mr) : V K d cl sl Q pc L st n mi mr := by
  intro G p l e R s m args below meth c Z mc ms C hR H locs cells slots ls hH hS hc hs hl
  exact lv_iload_n C.1 C.2.1 hd rfl (gL_at hl hx) (k G p l e R s m args below meth c Z mc ms C hR H locs cells slots ls hH hS hc hs hl)
theorem V_iload {i : Nat} {x : Int32} (hd : decode K.2.1 pc = .ok (.iload i, 2)) (hx : L[i]? = some (some (.int x))) (k : V K d cl sl Q (pc + 2) L (.int x :: st) n mi mr) : V K d cl sl Q pc L st n mi mr := by
  intro G p l e R s m args below meth c Z mc ms C hR H locs cells slots ls hH hS hc hs hl
  exact lv_iload C.1 C.2.1 hd (gL_at hl hx) (k G p l e R s m args below meth c Z mc ms C hR H locs cells slots ls hH hS hc hs hl)
theorem V_lload_n {i : Fin 4} {x : Int64} (hd : decode K.2.1 pc = .ok (.lload_n i, 1)) (hx : L[(i : Nat)]? = some (some (.long x))) (k : V K d cl sl Q (pc + 1) L (.long x :: st) n mi mr) : V K d cl sl Q pc L st n mi mr := by
  intro G p l e R s m args below meth c Z mc ms C hR H locs cells slots ls hH hS hc hs hl
  exact lv_lload_n C.1 C.2.1 hd rfl (gL_at hl hx) (k G p l e R s m args below meth c Z mc ms C hR H locs cells slots ls hH hS hc hs hl)
theorem V_lload {i : Nat} {x : Int64} (hd : decode K.2.1 pc = .ok (.lload i, 2)) (hx : L[i]? = some (some (.long x))) (k : V K d cl sl Q (pc + 2) L (.long x :: st) n mi mr) : V K d cl sl Q pc L st n mi mr := by
  intro G p l e R s m args below meth c Z mc ms C hR H locs cells slots ls hH hS hc hs hl
  exact lv_lload C.1 C.2.1 hd (gL_at hl hx) (k G p l e R s m args below meth c Z mc ms C hR H locs cells slots ls hH hS hc hs hl)
theorem V_aload_n {i : Fin 4} {x : Nat} (hd : decode K.2.1 pc = .ok (.aload_n i, 1)) (hx : L[(i : Nat)]? = some (some (.ref x))) (k : V K d cl sl Q (pc + 1) L (.ref x :: st) n mi mr) : V K d cl sl Q pc L st n mi mr := by
  intro G p l e R s m args below meth c Z mc ms C hR H locs cells slots ls hH hS hc hs hl
  exact lv_aload_n C.1 C.2.1 hd rfl (gL_at hl hx) (k G p l e R s m args below meth c Z mc ms C hR H locs cells slots ls hH hS hc hs hl)
theorem V_aload {i : Nat} {x : Nat} (hd : decode K.2.1 pc = .ok (.aload i, 2)) (hx : L[i]? = some (some (.ref x))) (k : V K d cl sl Q (pc + 2) L (.ref x :: st) n mi mr) : V K d cl sl Q pc L st n mi mr := by
  intro G p l e R s m args below meth c Z mc ms C hR H locs cells slots ls hH hS hc hs hl
  exact lv_aload C.1 C.2.1 hd (gL_at hl hx) (k G p l e R s m args below meth c Z mc ms C hR H locs cells slots ls hH hS hc hs hl)
theorem V_istore_n {i : Fin 4} {x : Int32} {L' : List (Option Value)} (hd : decode K.2.1 pc = .ok (.istore_n i, 1)) (hi : (i : Nat) < K.2.2.1) (ho : okSt L (i : Nat) = true) (hL : L.set (i : Nat) (some (.int x)) = L') (k : V K d cl sl Q (pc + 1) L' st n mi mr) : V K d cl sl Q pc L ((.int x) :: st) n mi mr := by
  intro G p l e R s m args below meth c Z mc ms C hR H locs cells slots ls hH hS hc hs hl
  exact lv_istore_n C.1 C.2.1 hd rfl hl hi rfl (fun ls' hl' => (k G p l e R s m args below meth c Z mc ms C hR H locs cells slots ls' hH hS hc hs (gL_set1 rfl hl' ho hL)))
theorem V_istore {i : Nat} {x : Int32} {L' : List (Option Value)} (hd : decode K.2.1 pc = .ok (.istore i, 2)) (hi : i < K.2.2.1) (ho : okSt L i = true) (hL : L.set i (some (.int x)) = L') (k : V K d cl sl Q (pc + 2) L' st n mi mr) : V K d cl sl Q pc L ((.int x) :: st) n mi mr := by
  intro G p l e R s m args below meth c Z mc ms C hR H locs cells slots ls hH hS hc hs hl
  exact lv_istore C.1 C.2.1 hd hl hi rfl (fun ls' hl' => (k G p l e R s m args below meth c Z mc ms C hR H locs cells slots ls' hH hS hc hs (gL_set1 rfl hl' ho hL)))
theorem V_lstore_n {i : Fin 4} {x : Int64} {L' : List (Option Value)} (hd : decode K.2.1 pc = .ok (.lstore_n i, 1)) (hi : (i : Nat) + 1 < K.2.2.1) (ho : okSt L (i : Nat) = true) (hL : (L.set (i : Nat) (some (.long x))).set ((i : Nat) + 1) none = L') (k : V K d cl sl Q (pc + 1) L' st n mi mr) : V K d cl sl Q pc L ((.long x) :: st) n mi mr := by
  intro G p l e R s m args below meth c Z mc ms C hR H locs cells slots ls hH hS hc hs hl
  exact lv_lstore_n C.1 C.2.1 hd rfl hl hi rfl (fun ls' hl' => (k G p l e R s m args below meth c Z mc ms C hR H locs cells slots ls' hH hS hc hs (gL_set2 rfl hl' ho hL)))
theorem V_lstore {i : Nat} {x : Int64} {L' : List (Option Value)} (hd : decode K.2.1 pc = .ok (.lstore i, 2)) (hi : i + 1 < K.2.2.1) (ho : okSt L i = true) (hL : (L.set i (some (.long x))).set (i + 1) none = L') (k : V K d cl sl Q (pc + 2) L' st n mi mr) : V K d cl sl Q pc L ((.long x) :: st) n mi mr := by
  intro G p l e R s m args below meth c Z mc ms C hR H locs cells slots ls hH hS hc hs hl
  exact lv_lstore C.1 C.2.1 hd hl hi rfl (fun ls' hl' => (k G p l e R s m args below meth c Z mc ms C hR H locs cells slots ls' hH hS hc hs (gL_set2 rfl hl' ho hL)))
theorem V_astore_n {i : Fin 4} {x : Nat} {L' : List (Option Value)} (hd : decode K.2.1 pc = .ok (.astore_n i, 1)) (hi : (i : Nat) < K.2.2.1) (ho : okSt L (i : Nat) = true) (hL : L.set (i : Nat) (some (.ref x)) = L') (k : V K d cl sl Q (pc + 1) L' st n mi mr) : V K d cl sl Q pc L ((.ref x) :: st) n mi mr := by
  intro G p l e R s m args below meth c Z mc ms C hR H locs cells slots ls hH hS hc hs hl
  exact lv_astore_n C.1 C.2.1 hd rfl hl hi rfl (fun ls' hl' => (k G p l e R s m args below meth c Z mc ms C hR H locs cells slots ls' hH hS hc hs (gL_set1 rfl hl' ho hL)))
theorem V_astore {i : Nat} {x : Nat} {L' : List (Option Value)} (hd : decode K.2.1 pc = .ok (.astore i, 2)) (hi : i < K.2.2.1) (ho : okSt L i = true) (hL : L.set i (some (.ref x)) = L') (k : V K d cl sl Q (pc + 2) L' st n mi mr) : V K d cl sl Q pc L ((.ref x) :: st) n mi mr := by
  intro G p l e R s m args below meth c Z mc ms C hR H locs cells slots ls hH hS hc hs hl
  exact lv_astore C.1 C.2.1 hd hl hi rfl (fun ls' hl' => (k G p l e R s m args below meth c Z mc ms C hR H locs cells slots ls' hH hS hc hs (gL_set1 rfl hl' ho hL)))
theorem V_iinc {i : Nat} {b : Int} {x v : Int32} {L' : List (Option Value)} (hd : decode K.2.1 pc = .ok (.iinc i b, 3)) (hi : i < K.2.2.1) (hx : L[i]? = some (some (.int x))) (hv : x + Int32.ofInt b = v) (ho : okSt L i = true) (hL : L.set i (some (.int v)) = L') (k : V K d cl sl Q (pc + 3) L' st n mi mr) : V K d cl sl Q pc L st n mi mr := by
  intro G p l e R s m args below meth c Z mc ms C hR H locs cells slots ls hH hS hc hs hl
  obtain ⟨j, hj⟩ := List.getElem?_of_mem (gL_in.mpr ⟨_, hx, rfl⟩ : (i, gV G (.int x)) ∈ gL G L)
  exact lv_iinc C.1 C.2.1 hd hl hj hv hi rfl (fun ls' hl' => (k G p l e R s m args below meth c Z mc ms C hR H locs cells slots ls' hH hS hc hs (gL_set1 (v := .int v) rfl hl' ho hL)))
theorem V_iadd {x y : Int32} (hd : decode K.2.1 pc = .ok (.iadd, 1)) (k : V K d cl sl Q (pc + 1) L (.int (x + y) :: st) n mi mr) : V K d cl sl Q pc L (.int y :: .int x :: st) n mi mr := by
  intro G p l e R s m args below meth c Z mc ms C hR H locs cells slots ls hH hS hc hs hl
  exact lv_iadd C.1 C.2.1 hd (k G p l e R s m args below meth c Z mc ms C hR H locs cells slots ls hH hS hc hs hl)
theorem V_isub {x y : Int32} (hd : decode K.2.1 pc = .ok (.isub, 1)) (k : V K d cl sl Q (pc + 1) L (.int (x - y) :: st) n mi mr) : V K d cl sl Q pc L (.int y :: .int x :: st) n mi mr := by
  intro G p l e R s m args below meth c Z mc ms C hR H locs cells slots ls hH hS hc hs hl
  exact lv_isub C.1 C.2.1 hd (k G p l e R s m args below meth c Z mc ms C hR H locs cells slots ls hH hS hc hs hl)
theorem V_imul {x y : Int32} (hd : decode K.2.1 pc = .ok (.imul, 1)) (k : V K d cl sl Q (pc + 1) L (.int (x * y) :: st) n mi mr) : V K d cl sl Q pc L (.int y :: .int x :: st) n mi mr := by
  intro G p l e R s m args below meth c Z mc ms C hR H locs cells slots ls hH hS hc hs hl
  exact lv_imul C.1 C.2.1 hd (k G p l e R s m args below meth c Z mc ms C hR H locs cells slots ls hH hS hc hs hl)
theorem V_iand {x y : Int32} (hd : decode K.2.1 pc = .ok (.iand, 1)) (k : V K d cl sl Q (pc + 1) L (.int (x &&& y) :: st) n mi mr) : V K d cl sl Q pc L (.int y :: .int x :: st) n mi mr := by
  intro G p l e R s m args below meth c Z mc ms C hR H locs cells slots ls hH hS hc hs hl
  exact lv_iand C.1 C.2.1 hd (k G p l e R s m args below meth c Z mc ms C hR H locs cells slots ls hH hS hc hs hl)
theorem V_ior {x y : Int32} (hd : decode K.2.1 pc = .ok (.ior, 1)) (k : V K d cl sl Q (pc + 1) L (.int (x ||| y) :: st) n mi mr) : V K d cl sl Q pc L (.int y :: .int x :: st) n mi mr := by
  intro G p l e R s m args below meth c Z mc ms C hR H locs cells slots ls hH hS hc hs hl
  exact lv_ior C.1 C.2.1 hd (k G p l e R s m args below meth c Z mc ms C hR H locs cells slots ls hH hS hc hs hl)
theorem V_ixor {x y : Int32} (hd : decode K.2.1 pc = .ok (.ixor, 1)) (k : V K d cl sl Q (pc + 1) L (.int (x ^^^ y) :: st) n mi mr) : V K d cl sl Q pc L (.int y :: .int x :: st) n mi mr := by
  intro G p l e R s m args below meth c Z mc ms C hR H locs cells slots ls hH hS hc hs hl
  exact lv_ixor C.1 C.2.1 hd (k G p l e R s m args below meth c Z mc ms C hR H locs cells slots ls hH hS hc hs hl)
theorem V_ishl {x y : Int32} (hd : decode K.2.1 pc = .ok (.ishl, 1)) (k : V K d cl sl Q (pc + 1) L (.int (x <<< (y &&& 31)) :: st) n mi mr) : V K d cl sl Q pc L (.int y :: .int x :: st) n mi mr := by
  intro G p l e R s m args below meth c Z mc ms C hR H locs cells slots ls hH hS hc hs hl
  exact lv_ishl C.1 C.2.1 hd (k G p l e R s m args below meth c Z mc ms C hR H locs cells slots ls hH hS hc hs hl)
theorem V_ishr {x y : Int32} (hd : decode K.2.1 pc = .ok (.ishr, 1)) (k : V K d cl sl Q (pc + 1) L (.int (x >>> (y &&& 31)) :: st) n mi mr) : V K d cl sl Q pc L (.int y :: .int x :: st) n mi mr := by
  intro G p l e R s m args below meth c Z mc ms C hR H locs cells slots ls hH hS hc hs hl
  exact lv_ishr C.1 C.2.1 hd (k G p l e R s m args below meth c Z mc ms C hR H locs cells slots ls hH hS hc hs hl)
theorem V_idiv {x y : Int32} (hd : decode K.2.1 pc = .ok (.idiv, 1)) (hy : ¬ y = 0) (k : V K d cl sl Q (pc + 1) L (.int (x / y) :: st) n mi mr) : V K d cl sl Q pc L (.int y :: .int x :: st) n mi mr := by
  intro G p l e R s m args below meth c Z mc ms C hR H locs cells slots ls hH hS hc hs hl
  exact lv_idiv C.1 C.2.1 hd hy (k G p l e R s m args below meth c Z mc ms C hR H locs cells slots ls hH hS hc hs hl)
theorem V_irem {x y : Int32} (hd : decode K.2.1 pc = .ok (.irem, 1)) (hy : ¬ y = 0) (k : V K d cl sl Q (pc + 1) L (.int (x - x / y * y) :: st) n mi mr) : V K d cl sl Q pc L (.int y :: .int x :: st) n mi mr := by
  intro G p l e R s m args below meth c Z mc ms C hR H locs cells slots ls hH hS hc hs hl
  exact lv_irem C.1 C.2.1 hd hy (k G p l e R s m args below meth c Z mc ms C hR H locs cells slots ls hH hS hc hs hl)
theorem V_ineg {x : Int32} (hd : decode K.2.1 pc = .ok (.ineg, 1)) (k : V K d cl sl Q (pc + 1) L (.int (-x) :: st) n mi mr) : V K d cl sl Q pc L (.int x :: st) n mi mr := by
  intro G p l e R s m args below meth c Z mc ms C hR H locs cells slots ls hH hS hc hs hl
  exact lv_ineg C.1 C.2.1 hd (k G p l e R s m args below meth c Z mc ms C hR H locs cells slots ls hH hS hc hs hl)
theorem V_i2l {x : Int32} (hd : decode K.2.1 pc = .ok (.i2l, 1)) (k : V K d cl sl Q (pc + 1) L (.long x.toInt64 :: st) n mi mr) : V K d cl sl Q pc L (.int x :: st) n mi mr := by
  intro G p l e R s m args below meth c Z mc ms C hR H locs cells slots ls hH hS hc hs hl
  exact lv_i2l C.1 C.2.1 hd rfl (k G p l e R s m args below meth c Z mc ms C hR H locs cells slots ls hH hS hc hs hl)
theorem V_i2c {x : Int32} (hd : decode K.2.1 pc = .ok (.i2c, 1)) (k : V K d cl sl Q (pc + 1) L (.int (x.toUInt32 % 65536).toInt32 :: st) n mi mr) : V K d cl sl Q pc L (.int x :: st) n mi mr := by
  intro G p l e R s m args below meth c Z mc ms C hR H locs cells slots ls hH hS hc hs hl
  exact lv_i2c C.1 C.2.1 hd rfl (k G p l e R s m args below meth c Z mc ms C hR H locs cells slots ls hH hS hc hs hl)
theorem V_ladd {x y : Int64} (hd : decode K.2.1 pc = .ok (.ladd, 1)) (k : V K d cl sl Q (pc + 1) L (.long (x + y) :: st) n mi mr) : V K d cl sl Q pc L (.long y :: .long x :: st) n mi mr := by
  intro G p l e R s m args below meth c Z mc ms C hR H locs cells slots ls hH hS hc hs hl
  exact lv_ladd C.1 C.2.1 hd (k G p l e R s m args below meth c Z mc ms C hR H locs cells slots ls hH hS hc hs hl)
theorem V_ldiv {x y : Int64} (hd : decode K.2.1 pc = .ok (.ldiv, 1)) (hy : ¬ y = 0) (k : V K d cl sl Q (pc + 1) L (.long (x / y) :: st) n mi mr) : V K d cl sl Q pc L (.long y :: .long x :: st) n mi mr := by
  intro G p l e R s m args below meth c Z mc ms C hR H locs cells slots ls hH hS hc hs hl
  exact lv_ldiv C.1 C.2.1 hd hy (k G p l e R s m args below meth c Z mc ms C hR H locs cells slots ls hH hS hc hs hl)
theorem V_lrem {x y : Int64} (hd : decode K.2.1 pc = .ok (.lrem, 1)) (hy : ¬ y = 0) (k : V K d cl sl Q (pc + 1) L (.long (x - x / y * y) :: st) n mi mr) : V K d cl sl Q pc L (.long y :: .long x :: st) n mi mr := by
  intro G p l e R s m args below meth c Z mc ms C hR H locs cells slots ls hH hS hc hs hl
  exact lv_lrem C.1 C.2.1 hd hy (k G p l e R s m args below meth c Z mc ms C hR H locs cells slots ls hH hS hc hs hl)
theorem V_lcmp {x y : Int64} (hd : decode K.2.1 pc = .ok (.lcmp, 1)) (k : V K d cl sl Q (pc + 1) L (.int (lg_cmp x y) :: st) n mi mr) : V K d cl sl Q pc L (.long y :: .long x :: st) n mi mr := by
  intro G p l e R s m args below meth c Z mc ms C hR H locs cells slots ls hH hS hc hs hl
  exact W.lcmp C.1 C.2.1 hd (k G p l e R s m args below meth c Z mc ms C hR H locs cells slots ls hH hS hc hs hl)
theorem V_iushr {x y : Int32} (hd : decode K.2.1 pc = .ok (.iushr, 1)) (k : V K d cl sl Q (pc + 1) L (.int (x.toUInt32 >>> (y.toUInt32 &&& Int32.toUInt32 31)).toInt32 :: st) n mi mr) : V K d cl sl Q pc L (.int y :: .int x :: st) n mi mr := by
  intro G p l e R s m args below meth c Z mc ms C hR H locs cells slots ls hH hS hc hs hl
  exact lv_iushr C.1 C.2.1 hd rfl (k G p l e R s m args below meth c Z mc ms C hR H locs cells slots ls hH hS hc hs hl)
theorem V_dup {a : Value} (hd : decode K.2.1 pc = .ok (.dup, 1)) (ha : a.category = 1) (k : V K d cl sl Q (pc + 1) L (a :: a :: st) n mi mr) : V K d cl sl Q pc L (a :: st) n mi mr := by
  intro G p l e R s m args below meth c Z mc ms C hR H locs cells slots ls hH hS hc hs hl
  exact lv_dup C.1 C.2.1 hd (by rw [gV_cat]; exact ha) (k G p l e R s m args below meth c Z mc ms C hR H locs cells slots ls hH hS hc hs hl)
theorem V_pop {a : Value} (hd : decode K.2.1 pc = .ok (.pop, 1)) (ha : a.category = 1) (k : V K d cl sl Q (pc + 1) L st n mi mr) : V K d cl sl Q pc L (a :: st) n mi mr := by
  intro G p l e R s m args below meth c Z mc ms C hR H locs cells slots ls hH hS hc hs hl
  exact lv_pop C.1 C.2.1 hd (by rw [gV_cat]; exact ha) (k G p l e R s m args below meth c Z mc ms C hR H locs cells slots ls hH hS hc hs hl)
theorem V_dup_x1 {a b : Value} (hd : decode K.2.1 pc = .ok (.dup_x1, 1)) (ha : a.category = 1) (hb : b.category = 1) (k : V K d cl sl Q (pc + 1) L (a :: b :: a :: st) n mi mr) : V K d cl sl Q pc L (a :: b :: st) n mi mr := by
  intro G p l e R s m args below meth c Z mc ms C hR H locs cells slots ls hH hS hc hs hl
  exact lv_dup_x1 C.1 C.2.1 hd (by rw [gV_cat]; exact ha) (by rw [gV_cat]; exact hb) (k G p l e R s m args below meth c Z mc ms C hR H locs cells slots ls hH hS hc hs hl)
theorem V_dup2 {a b : Value} (hd : decode K.2.1 pc = .ok (.dup2, 1)) (ha : a.category = 1) (hb : b.category = 1) (k : V K d cl sl Q (pc + 1) L (a :: b :: a :: b :: st) n mi mr) : V K d cl sl Q pc L (a :: b :: st) n mi mr := by
  intro G p l e R s m args below meth c Z mc ms C hR H locs cells slots ls hH hS hc hs hl
  exact lv_dup2_11 C.1 C.2.1 hd (by rw [gV_cat]; exact ha) (by rw [gV_cat]; exact hb) (k G p l e R s m args below meth c Z mc ms C hR H locs cells slots ls hH hS hc hs hl)
theorem V_icmp_eq {x y : Int32} {off : Int} {tgt : Nat} (hd : decode K.2.1 pc = .ok (.if_icmp .eq off, 3)) (ht : (pc : Int) + off = (tgt : Int)) (kt : x = y → V K d cl sl Q tgt L st n mi mr) (kf : ¬ x = y → V K d cl sl Q (pc + 3) L st n mi mr) : V K d cl sl Q pc L (.int y :: .int x :: st) n mi mr := by
  intro G p l e R s m args below meth c Z mc ms C hR H locs cells slots ls hH hS hc hs hl
  exact lv_icmp_eq C.1 C.2.1 hd ht (fun q => (kt q G p l e R s m args below meth c Z mc ms C hR H locs cells slots ls hH hS hc hs hl)) (fun q => (kf q G p l e R s m args below meth c Z mc ms C hR H locs cells slots ls hH hS hc hs hl))
theorem V_if_eq {x : Int32} {off : Int} {tgt : Nat} (hd : decode K.2.1 pc = .ok (.ifCond .eq off, 3)) (ht : (pc : Int) + off = (tgt : Int)) (kt : x = 0 → V K d cl sl Q tgt L st n mi mr) (kf : ¬ x = 0 → V K d cl sl Q (pc + 3) L st n mi mr) : V K d cl sl Q pc L (.int x :: st) n mi mr := by
  intro G p l e R s m args below meth c Z mc ms C hR H locs cells slots ls hH hS hc hs hl
  exact lv_if_eq C.1 C.2.1 hd ht (fun q => (kt q G p l e R s m args below meth c Z mc ms C hR H locs cells slots ls hH hS hc hs hl)) (fun q => (kf q G p l e R s m args below meth c Z mc ms C hR H locs cells slots ls hH hS hc hs hl))
theorem V_icmp_ne {x y : Int32} {off : Int} {tgt : Nat} (hd : decode K.2.1 pc = .ok (.if_icmp .ne off, 3)) (ht : (pc : Int) + off = (tgt : Int)) (kt : ¬ x = y → V K d cl sl Q tgt L st n mi mr) (kf : x = y → V K d cl sl Q (pc + 3) L st n mi mr) : V K d cl sl Q pc L (.int y :: .int x :: st) n mi mr := by
  intro G p l e R s m args below meth c Z mc ms C hR H locs cells slots ls hH hS hc hs hl
  exact lv_icmp_ne C.1 C.2.1 hd ht (fun q => (kt q G p l e R s m args below meth c Z mc ms C hR H locs cells slots ls hH hS hc hs hl)) (fun q => (kf q G p l e R s m args below meth c Z mc ms C hR H locs cells slots ls hH hS hc hs hl))
theorem V_if_ne {x : Int32} {off : Int} {tgt : Nat} (hd : decode K.2.1 pc = .ok (.ifCond .ne off, 3)) (ht : (pc : Int) + off = (tgt : Int)) (kt : ¬ x = 0 → V K d cl sl Q tgt L st n mi mr) (kf : x = 0 → V K d cl sl Q (pc + 3) L st n mi mr) : V K d cl sl Q pc L (.int x :: st) n mi mr := by
  intro G p l e R s m args below meth c Z mc ms C hR H locs cells slots ls hH hS hc hs hl
  exact lv_if_ne C.1 C.2.1 hd ht (fun q => (kt q G p l e R s m args below meth c Z mc ms C hR H locs cells slots ls hH hS hc hs hl)) (fun q => (kf q G p l e R s m args below meth c Z mc ms C hR H locs cells slots ls hH hS hc hs hl))
theorem V_icmp_lt {x y : Int32} {off : Int} {tgt : Nat} (hd : decode K.2.1 pc = .ok (.if_icmp .lt off, 3)) (ht : (pc : Int) + off = (tgt : Int)) (kt : x < y → V K d cl sl Q tgt L st n mi mr) (kf : ¬ x < y → V K d cl sl Q (pc + 3) L st n mi mr) : V K d cl sl Q pc L (.int y :: .int x :: st) n mi mr := by
  intro G p l e R s m args below meth c Z mc ms C hR H locs cells slots ls hH hS hc hs hl
  exact lv_icmp_lt C.1 C.2.1 hd ht (fun q => (kt q G p l e R s m args below meth c Z mc ms C hR H locs cells slots ls hH hS hc hs hl)) (fun q => (kf q G p l e R s m args below meth c Z mc ms C hR H locs cells slots ls hH hS hc hs hl))
theorem V_if_lt {x : Int32} {off : Int} {tgt : Nat} (hd : decode K.2.1 pc = .ok (.ifCond .lt off, 3)) (ht : (pc : Int) + off = (tgt : Int)) (kt : x < 0 → V K d cl sl Q tgt L st n mi mr) (kf : ¬ x < 0 → V K d cl sl Q (pc + 3) L st n mi mr) : V K d cl sl Q pc L (.int x :: st) n mi mr := by
  intro G p l e R s m args below meth c Z mc ms C hR H locs cells slots ls hH hS hc hs hl
  exact lv_if_lt C.1 C.2.1 hd ht (fun q => (kt q G p l e R s m args below meth c Z mc ms C hR H locs cells slots ls hH hS hc hs hl)) (fun q => (kf q G p l e R s m args below meth c Z mc ms C hR H locs cells slots ls hH hS hc hs hl))
theorem V_icmp_ge {x y : Int32} {off : Int} {tgt : Nat} (hd : decode K.2.1 pc = .ok (.if_icmp .ge off, 3)) (ht : (pc : Int) + off = (tgt : Int)) (kt : y ≤ x → V K d cl sl Q tgt L st n mi mr) (kf : ¬ y ≤ x → V K d cl sl Q (pc + 3) L st n mi mr) : V K d cl sl Q pc L (.int y :: .int x :: st) n mi mr := by
  intro G p l e R s m args below meth c Z mc ms C hR H locs cells slots ls hH hS hc hs hl
  exact lv_icmp_ge C.1 C.2.1 hd ht (fun q => (kt q G p l e R s m args below meth c Z mc ms C hR H locs cells slots ls hH hS hc hs hl)) (fun q => (kf q G p l e R s m args below meth c Z mc ms C hR H locs cells slots ls hH hS hc hs hl))
theorem V_if_ge {x : Int32} {off : Int} {tgt : Nat} (hd : decode K.2.1 pc = .ok (.ifCond .ge off, 3)) (ht : (pc : Int) + off = (tgt : Int)) (kt : 0 ≤ x → V K d cl sl Q tgt L st n mi mr) (kf : ¬ 0 ≤ x → V K d cl sl Q (pc + 3) L st n mi mr) : V K d cl sl Q pc L (.int x :: st) n mi mr := by
  intro G p l e R s m args below meth c Z mc ms C hR H locs cells slots ls hH hS hc hs hl
  exact lv_if_ge C.1 C.2.1 hd ht (fun q => (kt q G p l e R s m args below meth c Z mc ms C hR H locs cells slots ls hH hS hc hs hl)) (fun q => (kf q G p l e R s m args below meth c Z mc ms C hR H locs cells slots ls hH hS hc hs hl))
theorem V_icmp_gt {x y : Int32} {off : Int} {tgt : Nat} (hd : decode K.2.1 pc = .ok (.if_icmp .gt off, 3)) (ht : (pc : Int) + off = (tgt : Int)) (kt : y < x → V K d cl sl Q tgt L st n mi mr) (kf : ¬ y < x → V K d cl sl Q (pc + 3) L st n mi mr) : V K d cl sl Q pc L (.int y :: .int x :: st) n mi mr := by
  intro G p l e R s m args below meth c Z mc ms C hR H locs cells slots ls hH hS hc hs hl
  exact lv_icmp_gt C.1 C.2.1 hd ht (fun q => (kt q G p l e R s m args below meth c Z mc ms C hR H locs cells slots ls hH hS hc hs hl)) (fun q => (kf q G p l e R s m args below meth c Z mc ms C hR H locs cells slots ls hH hS hc hs hl))
theorem V_if_gt {x : Int32} {off : Int} {tgt : Nat} (hd : decode K.2.1 pc = .ok (.ifCond .gt off, 3)) (ht : (pc : Int) + off = (tgt : Int)) (kt : 0 < x → V K d cl sl Q tgt L st n mi mr) (kf : ¬ 0 < x → V K d cl sl Q (pc + 3) L st n mi mr) : V K d cl sl Q pc L (.int x :: st) n mi mr := by
  intro G p l e R s m args below meth c Z mc ms C hR H locs cells slots ls hH hS hc hs hl
  exact lv_if_gt C.1 C.2.1 hd ht (fun q => (kt q G p l e R s m args below meth c Z mc ms C hR H locs cells slots ls hH hS hc hs hl)) (fun q => (kf q G p l e R s m args below meth c Z mc ms C hR H locs cells slots ls hH hS hc hs hl))
theorem V_icmp_le {x y : Int32} {off : Int} {tgt : Nat} (hd : decode K.2.1 pc = .ok (.if_icmp .le off, 3)) (ht : (pc : Int) + off = (tgt : Int)) (kt : x ≤ y → V K d cl sl Q tgt L st n mi mr) (kf : ¬ x ≤ y → V K d cl sl Q (pc + 3) L st n mi mr) : V K d cl sl Q pc L (.int y :: .int x :: st) n mi mr := by
  intro G p l e R s m args below meth c Z mc ms C hR H locs cells slots ls hH hS hc hs hl
  exact lv_icmp_le C.1 C.2.1 hd ht (fun q => (kt q G p l e R s m args below meth c Z mc ms C hR H locs cells slots ls hH hS hc hs hl)) (fun q => (kf q G p l e R s m args below meth c Z mc ms C hR H locs cells slots ls hH hS hc hs hl))
theorem V_if_le {x : Int32} {off : Int} {tgt : Nat} (hd : decode K.2.1 pc = .ok (.ifCond .le off, 3)) (ht : (pc : Int) + off = (tgt : Int)) (kt : x ≤ 0 → V K d cl sl Q tgt L st n mi mr) (kf : ¬ x ≤ 0 → V K d cl sl Q (pc + 3) L st n mi mr) : V K d cl sl Q pc L (.int x :: st) n mi mr := by
  intro G p l e R s m args below meth c Z mc ms C hR H locs cells slots ls hH hS hc hs hl
  exact lv_if_le C.1 C.2.1 hd ht (fun q => (kt q G p l e R s m args below meth c Z mc ms C hR H locs cells slots ls hH hS hc hs hl)) (fun q => (kf q G p l e R s m args below meth c Z mc ms C hR H locs cells slots ls hH hS hc hs hl))
theorem V_goto {off : Int} {tgt : Nat} (hd : decode K.2.1 pc = .ok (.goto off, 3)) (ht : (pc : Int) + off = (tgt : Int)) (k : V K d cl sl Q tgt L st n mi mr) : V K d cl sl Q pc L st n mi mr := by
  intro G p l e R s m args below meth c Z mc ms C hR H locs cells slots ls hH hS hc hs hl
  exact lv_goto C.1 C.2.1 hd ht (k G p l e R s m args below meth c Z mc ms C hR H locs cells slots ls hH hS hc hs hl)
theorem V_tableIn {dflt lo hi : Int} {offs : Array Int} {len : Nat} {x : Int32} {off : Int} {tgt : Nat} (hd : decode K.2.1 pc = .ok (.tableswitch dflt lo hi offs, len)) (h1 : ¬ x.toInt < lo) (h2 : ¬ hi < x.toInt) (ho : offs[(x.toInt - lo).toNat]? = some off) (ht : (pc : Int) + off = (tgt : Int)) (k : V K d cl sl Q tgt L st n mi mr) : V K d cl sl Q pc L (.int x :: st) n mi mr := by
  intro G p l e R s m args below meth c Z mc ms C hR H locs cells slots ls hH hS hc hs hl
  exact lv_tableIn C.1 C.2.1 hd h1 h2 ho ht (k G p l e R s m args below meth c Z mc ms C hR H locs cells slots ls hH hS hc hs hl)
theorem V_tableOut {dflt lo hi : Int} {offs : Array Int} {len : Nat} {x : Int32} {tgt : Nat} (hd : decode K.2.1 pc = .ok (.tableswitch dflt lo hi offs, len)) (h : x.toInt < lo ∨ hi < x.toInt) (ht : (pc : Int) + dflt = (tgt : Int)) (k : V K d cl sl Q tgt L st n mi mr) : V K d cl sl Q pc L (.int x :: st) n mi mr := by
  intro G p l e R s m args below meth c Z mc ms C hR H locs cells slots ls hH hS hc hs hl
  exact lv_tableOut C.1 C.2.1 hd h ht (k G p l e R s m args below meth c Z mc ms C hR H locs cells slots ls hH hS hc hs hl)
theorem V_lookup {dflt : Int} {ps : Array (Int × Int)} {len : Nat} {x : Int32} {off : Int} {tgt : Nat} (hd : decode K.2.1 pc = .ok (.lookupswitch dflt ps, len)) (hp : (ps.toList.zip (ps.toList.drop 1)).all (fun (a, next) => a.1 < next.1) = true) (ho : Op.lookupswitch.offset ps.toList dflt x.toInt = off) (ht : (pc : Int) + off = (tgt : Int)) (k : V K d cl sl Q tgt L st n mi mr) : V K d cl sl Q pc L (.int x :: st) n mi mr := by
  intro G p l e R s m args below meth c Z mc ms C hR H locs cells slots ls hH hS hc hs hl
  exact lv_lookup C.1 C.2.1 hd hp ho ht (k G p l e R s m args below meth c Z mc ms C hR H locs cells slots ls hH hS hc hs hl)
theorem V_iret {x : Int32} {ty : FieldType} (hd : decode K.2.1 pc = .ok (.ireturn, 1)) (hr : K.2.2.2 = some ty) (hn : narrow ty (.int x) = .int x) (hq : Q (some (.int x)) n mi mr) : V K d cl sl Q pc L [.int x] n mi mr := by
  intro G p l e R s m args below meth c Z mc ms C hR H locs cells slots ls hH hS hc hs hl
  exact hR H locs cells slots ls pc n mi mr (some (.int x)) hH hS (by omega) (by omega) hq ⟨hd, ty, hr, hn⟩
theorem V_lret {x : Int64} (hd : decode K.2.1 pc = .ok (.lreturn, 1)) (hr : K.2.2.2 = some .long) (hq : Q (some (.long x)) n mi mr) : V K d cl sl Q pc L [.long x] n mi mr := by
  intro G p l e R s m args below meth c Z mc ms C hR H locs cells slots ls hH hS hc hs hl
  exact hR H locs cells slots ls pc n mi mr (some (.long x)) hH hS (by omega) (by omega) hq ⟨hd, hr⟩
theorem V_ret (hd : decode K.2.1 pc = .ok (.return_, 1)) (hr : K.2.2.2 = none) (hq : Q none n mi mr) : V K d cl sl Q pc L [] n mi mr := by
  intro G p l e R s m args below meth c Z mc ms C hR H locs cells slots ls hH hS hc hs hl
  exact hR H locs cells slots ls pc n mi mr none hH hS (by omega) (by omega) hq ⟨hd, hr⟩
end INS
