/-! arrays, new cells, Math, arraycopy over V -/
theorem nat_of_toInt {i : Int32} {j : Nat} (h : i.toInt = (j : Int)) : i.toNatClampNeg = j := by
  show i.toInt.toNat = j
  omega
theorem vp_in_j {i : Int32} {j len : Nat} (h : i.toInt = (j : Int)) (hl : j < len) : vp_in i len := vp_in_iff.mpr ⟨by omega, by omega⟩
theorem up2_upd {f : MI} {a j : Nat} {x : Int32} : up2 f a j x a = upd (f a) j x := by funext k; simp [up2, upd]
theorem vp_in_cell {cA : ClassId} {n : Nat} {f : Nat → Value} {i : Int32} (h : vp_in i n) : ¬ (i < 0 ∨ (arrV cA n f).slots.size ≤ i.toNatClampNeg) := by rw [arrV_size]; exact h
def mi0 (mi : MI) (n : Nat) : MI := fun i j => if i = n then 0 else mi i j
def mr0 (mr : MR) (n : Nat) : MR := fun i j => if i = n then none else mr i j
theorem mi0_s {mi : MI} {n j : Nat} : mi0 mi n n j = 0 := by simp [mi0]
theorem mr0_s {mr : MR} {n j : Nat} : mr0 mr n n j = none := by simp [mr0]
theorem mi0_a {mi : MI} {n i : Nat} (h : i ≠ n) : mi0 mi n i = mi i := by funext j; simp [mi0, h]
theorem mr0_a {mr : MR} {n i : Nat} (h : i ≠ n) : mr0 mr n i = mr i := by funext j; simp [mr0, h]
theorem gE_same {G : GT} {mi mi' : MI} {mr mr' : MR} {i : Nat} (h1 : mi' i = mi i) (h2 : mr' i = mr i) : gE G mi' mr' i = gE G mi mr i := by unfold gE; rw [h1, h2]
/-- a new cell -/
theorem gH.push {G : GT} {n : Nat} {mi : MI} {mr : MR} {H H1 : Heap} (h : gH G n mi mr H) (hz : H1.size = H.size + 1) (ho : ∀ q, q < H.size → H1[q]? = H[q]?) (he : va_at (gD G) gCls (H.size, gE G (mi0 mi n) (mr0 mr n) n) H1) : gH G (n + 1) (mi0 mi n) (mr0 mr n) H1 := by
  have h1 := h.1
  have h2 := h.2.1
  refine ⟨by omega, by omega, fun i h3 h4 => ?_, by rw [mi0_a (by omega)]; exact h.2.2.2.1, by rw [mr0_a (by omega)]; exact h.2.2.2.2⟩
  by_cases e : i = n
  · subst e
    rw [gAd_own G h3, ← h2]
    exact he
  · rw [gE_same (mi0_a e) (mr0_a e)]
    refine (h.2.2.1 i h3 (by omega)).kept (ho _ ?_)
    show gAd G i < H.size
    rw [gAd_own G h3]
    omega
theorem va_S.push {A : Nat → Prop} {H0 H H1 : Heap} {locs : List Loc} (h : va_S A H0 H locs) (hz : H.size ≤ H1.size) (ho : ∀ q, q < H.size → H1[q]? = H[q]?) : va_S A H0 H1 locs := ⟨Nat.le_trans h.1 hz, fun q h1 h2 => (ho q (Nat.lt_of_lt_of_le h1 h.1)).trans (h.2.1 q h1 h2), h.2.2⟩
theorem gFs_new {G : GT} {mi : MI} {mr : MR} {n ci : Nat} : ∀ j, j < gN ci → defaultValue (gFT ci j) = vp_V (gFs G (mi0 mi n) (mr0 mr n) n ci) j ∨ gFT ci j = .long ∨ gFT ci j = .float ∨ gFT ci j = .double := by
  intro j hj
  unfold vp_V
  rw [List.getD_eq_getElem?_getD, gFs_at hj, mi0_s, mr0_s]
  cases gFT ci j <;> simp [defaultValue, gRf, va_rf]
theorem gFT_no {ci : Nat} (h : ci < 9) : ∀ j, j < gN ci → gFT ci j ≠ .long ∧ gFT ci j ≠ .float ∧ gFT ci j ≠ .double := by
  match ci, h with
  | 0, _ => decide +kernel
  | 1, _ => decide +kernel
  | 2, _ => decide +kernel
  | 3, _ => decide +kernel
  | 4, _ => decide +kernel
  | 5, _ => decide +kernel
  | 6, _ => decide +kernel
  | 7, _ => decide +kernel
  | 8, _ => decide +kernel
section AR
variable {K : KT} {d cl sl : Nat} {Q : QT} {pc : Nat} {L : List (Option Value)} {st : List Value} {n : Nat} {mi : MI} {mr : MR}
theorem V_iald {a len : Nat} {i : Int32} (j : Nat) (hd : decode K.2.1 pc = .ok (.iaload, 1)) (hsh : SH a = .inr (0, len)) (ha : 32 ≤ a ∧ a < n) (hj : i.toInt = (j : Int)) (hlt : j < len)
    (kk : V K d cl sl Q (pc + 1) L (.int (mi a j) :: st) n mi mr) : V K d cl sl Q pc L (.int i :: .ref a :: st) n mi mr := by
  intro G p l e R s m args below meth c Z mc ms C hR H locs cells slots ls hH hS hc hs hl
  have hP := va_P_one (hH.at ha)
  rw [gE_arr hsh (by decide)] at hP
  have k2 := kk G p l e R s m args below meth c Z mc ms C hR H locs cells slots ls hH hS hc hs hl
  rw [← nat_of_toInt hj] at k2
  exact va_iald C.1 C.2.1 C.2.2.2.2.2.2.2.1.1 hP 0 0 rfl (gTys_at G (by decide)) (vp_in_j hj hlt) hd k2
theorem V_cald {a len : Nat} {i : Int32} (j : Nat) (hd : decode K.2.1 pc = .ok (.caload, 1)) (hsh : SH a = .inr (1, len)) (ha : 32 ≤ a ∧ a < n) (hj : i.toInt = (j : Int)) (hlt : j < len)
    (kk : V K d cl sl Q (pc + 1) L (.int (mi a j) :: st) n mi mr) : V K d cl sl Q pc L (.int i :: .ref a :: st) n mi mr := by
  intro G p l e R s m args below meth c Z mc ms C hR H locs cells slots ls hH hS hc hs hl
  have hP := va_P_one (hH.at ha)
  rw [gE_arr hsh (by decide)] at hP
  have k2 := kk G p l e R s m args below meth c Z mc ms C hR H locs cells slots ls hH hS hc hs hl
  rw [← nat_of_toInt hj] at k2
  exact va_cald C.1 C.2.1 C.2.2.2.2.2.2.2.1.1 hP 0 1 rfl (gTys_at G (by decide)) (vp_in_j hj hlt) hd k2
theorem V_zald {a len : Nat} {i : Int32} (j : Nat) (hd : decode K.2.1 pc = .ok (.baload, 1)) (hsh : SH a = .inr (2, len)) (ha : 32 ≤ a ∧ a < n) (hj : i.toInt = (j : Int)) (hlt : j < len)
    (kk : V K d cl sl Q (pc + 1) L (.int (mi a j) :: st) n mi mr) : V K d cl sl Q pc L (.int i :: .ref a :: st) n mi mr := by
  intro G p l e R s m args below meth c Z mc ms C hR H locs cells slots ls hH hS hc hs hl
  have hP := va_P_one (hH.at ha)
  rw [gE_arr hsh (by decide)] at hP
  have k2 := kk G p l e R s m args below meth c Z mc ms C hR H locs cells slots ls hH hS hc hs hl
  rw [← nat_of_toInt hj] at k2
  exact va_zald C.1 C.2.1 C.2.2.2.2.2.2.2.1.1 hP 0 2 rfl (gTys_at G (by decide)) (vp_in_j hj hlt) hd k2
theorem V_aald {a b len : Nat} {i : Int32} (t j : Nat) (hd : decode K.2.1 pc = .ok (.aaload, 1)) (hsh : SH a = .inr (t, len)) (ht : (decide (3 ≤ t) && decide (t < 6)) = true) (ha : 32 ≤ a ∧ a < n) (hj : i.toInt = (j : Int)) (hlt : j < len) (hb : mr a j = some b)
    (kk : V K d cl sl Q (pc + 1) L (.ref b :: st) n mi mr) : V K d cl sl Q pc L (.int i :: .ref a :: st) n mi mr := by
  intro G p l e R s m args below meth c Z mc ms C hR H locs cells slots ls hH hS hc hs hl
  simp only [Bool.and_eq_true, decide_eq_true_eq] at ht
  have hP := hH.at ha
  rw [gE_arq hsh (by omega)] at hP
  have k2 := kk G p l e R s m args below meth c Z mc ms C hR H locs cells slots ls hH hS hc hs hl
  have e : va_rf ((mr a i.toNatClampNeg).map (gAd G)) = gV G (.ref b) := by rw [nat_of_toInt hj, hb]; rfl
  have hin := vp_in_j hj hlt
  have hl2 : i.toNatClampNeg < len := by rw [nat_of_toInt hj]; exact hlt
  have hty : (gTy t).isReference = true := by
    match t, ht with
    | 3, _ => rfl
    | 4, _ => rfl
    | 5, _ => rfl
  refine W.aald (v := gV G (.ref b)) (ty := gTy t) C.1 C.2.1 hP ((C.2.2.2.2.2.2.2.1.1.2 t _ (gTys_at G ht.2)).1 len (fun j => va_rf ((mr a j).map (gAd G)))) hty (fun q => by cases q) (vp_in_cell (f := fun j => va_rf ((mr a j).map (gAd G))) hin) ?_ rfl rfl hd k2
  show (arrV _ _ _).slots[_]? = _
  rw [arrV_read _ _ hl2, e]
theorem V_alen {a t len : Nat} {v : Int32} (hd : decode K.2.1 pc = .ok (.arraylength, 1)) (hsh : SH a = .inr (t, len)) (ht : t < 6) (ha : 32 ≤ a ∧ a < n) (hv : Int32.ofNat len = v)
    (kk : V K d cl sl Q (pc + 1) L (.int v :: st) n mi mr) : V K d cl sl Q pc L (.ref a :: st) n mi mr := by
  intro G p l e R s m args below meth c Z mc ms C hR H locs cells slots ls hH hS hc hs hl
  have k2 := kk G p l e R s m args below meth c Z mc ms C hR H locs cells slots ls hH hS hc hs hl
  have hP := va_P_one (hH.at ha)
  by_cases h3 : t < 3
  · rw [gE_arr hsh h3] at hP
    exact va_alen C.1 C.2.1 C.2.2.2.2.2.2.2.1.1 hP 0 t rfl (gTys_at G ht) hv hd k2
  · rw [gE_arq hsh h3] at hP
    exact va_alen C.1 C.2.1 C.2.2.2.2.2.2.2.1.1 hP 0 t rfl (gTys_at G ht) hv hd k2
/-- the heap behind a store into an array of numbers -/
theorem gH.elem {G : GT} {H H1 : Heap} {a t len j : Nat} {x : Int32} (h : gH G n mi mr H) (hsh : SH a = .inr (t, len)) (ht : t < 3) (ha : 32 ≤ a ∧ a < n) (hz : H1.size = H.size) (ho : ∀ q, q ≠ gAd G a → H1[q]? = H[q]?) (e : H1[gAd G a]? = some ((vp_cell (gC G t) (len, .inl (mi a))).setSlot j (.int x))) : gH G n (up2 mi a j x) mr H1 := by
  refine h.put ha hz ho ?_ (fun i hi => ⟨up2_a hi, rfl⟩)
  rw [gE_arr hsh ht, up2_upd]
  show H1[gAd G a]? = some (vp_cell _ _)
  rw [e]
  rw [vp_cell_i, vp_cell_i, arrV_store]
  congr 2
  funext q
  by_cases hq : q = j
  · subst hq
    simp [updV, upd]
  · simp [updV, upd, hq]
theorem V_iast {a len : Nat} {i x : Int32} (j : Nat) (hd : decode K.2.1 pc = .ok (.iastore, 1)) (hsh : SH a = .inr (0, len)) (ha : 32 ≤ a ∧ a < n) (hj : i.toInt = (j : Int)) (hlt : j < len)
    (kk : V K d cl sl Q (pc + 1) L st n (up2 mi a j x) mr) : V K d cl sl Q pc L (.int x :: .int i :: .ref a :: st) n mi mr := by
  intro G p l e R s m args below meth c Z mc ms C hR H locs cells slots ls hH hS hc hs hl
  have hP := hH.at ha
  rw [gE_arr hsh (by decide)] at hP
  refine W.iast C.1 C.2.1 hP ((C.2.2.2.2.2.2.2.1.1.2 0 _ (gTys_at G (by decide))).1 len (fun j => .int (mi a j))) (fun q => by cases q) (vp_in_cell (f := fun j => .int (mi a j)) (vp_in_j hj hlt)) rfl rfl hd fun H1 e z oq => ?_
  rw [nat_of_toInt hj] at e ⊢
  exact kk G p l _ R s m args below meth c Z mc ms C hR H1 _ cells slots ls (hH.elem hsh (by decide) ha z oq e) (hS.put z oq (gAd_A G ha.1)) hc hs hl
theorem V_zast {a len : Nat} {i x y : Int32} (j : Nat) (hd : decode K.2.1 pc = .ok (.bastore, 1)) (hsh : SH a = .inr (2, len)) (ha : 32 ≤ a ∧ a < n) (hj : i.toInt = (j : Int)) (hlt : j < len) (hx : narrow .boolean (.int x) = .int y)
    (kk : V K d cl sl Q (pc + 1) L st n (up2 mi a j y) mr) : V K d cl sl Q pc L (.int x :: .int i :: .ref a :: st) n mi mr := by
  intro G p l e R s m args below meth c Z mc ms C hR H locs cells slots ls hH hS hc hs hl
  have hP := hH.at ha
  rw [gE_arr hsh (by decide)] at hP
  refine W.zast C.1 C.2.1 hP ((C.2.2.2.2.2.2.2.1.1.2 2 _ (gTys_at G (by decide))).1 len (fun j => .int (mi a j))) (fun q => by cases q) (vp_in_cell (f := fun j => .int (mi a j)) (vp_in_j hj hlt)) rfl rfl hd fun H1 e z oq => ?_
  rw [nat_of_toInt hj] at e ⊢
  rw [hx] at e
  exact kk G p l _ R s m args below meth c Z mc ms C hR H1 _ cells slots ls (hH.elem hsh (by decide) ha z oq e) (hS.put z oq (gAd_A G ha.1)) hc hs hl
theorem V_cast {a len : Nat} {i x y : Int32} (j : Nat) (hd : decode K.2.1 pc = .ok (.castore, 1)) (hsh : SH a = .inr (1, len)) (ha : 32 ≤ a ∧ a < n) (hj : i.toInt = (j : Int)) (hlt : j < len) (hx : narrow .char (.int x) = .int y)
    (kk : V K d cl sl Q (pc + 1) L st n (up2 mi a j y) mr) : V K d cl sl Q pc L (.int x :: .int i :: .ref a :: st) n mi mr := by
  intro G p l e R s m args below meth c Z mc ms C hR H locs cells slots ls hH hS hc hs hl
  have hP := hH.at ha
  rw [gE_arr hsh (by decide)] at hP
  refine W.cast C.1 C.2.1 hP ((C.2.2.2.2.2.2.2.1.1.2 1 _ (gTys_at G (by decide))).1 len (fun j => .int (mi a j))) (fun q => by cases q) (vp_in_cell (f := fun j => .int (mi a j)) (vp_in_j hj hlt)) rfl rfl hd fun H1 e z oq => ?_
  rw [nat_of_toInt hj] at e ⊢
  rw [hx] at e
  exact kk G p l _ R s m args below meth c Z mc ms C hR H1 _ cells slots ls (hH.elem hsh (by decide) ha z oq e) (hS.put z oq (gAd_A G ha.1)) hc hs hl
/-- an object into an array of objects -/
theorem V_aast {a b ci len : Nat} {i : Int32} (t j : Nat) (hd : decode K.2.1 pc = .ok (.aastore, 1)) (hsh : SH a = .inr (t, len)) (ht : t = 4 ∧ ci = 5 ∨ t = 5 ∧ ci = 1) (ha : 32 ≤ a ∧ a < n) (hb : SH b = .inl ci) (hb2 : 32 ≤ b ∧ b < n) (hj : i.toInt = (j : Int)) (hlt : j < len)
    (kk : V K d cl sl Q (pc + 1) L st n mi (up2 mr a j (some b))) : V K d cl sl Q pc L (.ref b :: .int i :: .ref a :: st) n mi mr := by
  intro G p l e R s m args below meth c Z mc ms C hR H locs cells slots ls hH hS hc hs hl
  have hP := hH.at ha
  rw [gE_arq hsh (by omega)] at hP
  have hB := hH.at hb2
  rw [gE_obj hb] at hB
  have hci : ci < 9 := by omega
  have hty : gTy t = .object (gRX ci) := by rcases ht with ⟨rfl, rfl⟩ | ⟨rfl, rfl⟩ <;> rfl
  have hK := C.2.2.2.2.2.2.2.1.1
  obtain ⟨r', hr', cellV, g1, g2, g3, -⟩ := hB
  have hcls := (hK.1 ci _ (gCls_at hci)).2
  have hk2 := (hK.2 t _ (gTys_at G (by omega))).2
  simp only at hk2
  rw [hty] at hk2
  obtain ⟨kA, comp, k1, k2, k3, -⟩ := hk2
  have hcomp : comp = (gD G).1 ci := Option.some.inj (k3.symm.trans hcls.1)
  subst hcomp
  obtain ⟨kC, hkC, -⟩ := hcls.2
  refine W.aast C.1 C.2.1 hP (fun q h => by cases h) (fun h => by cases h) k1 k2 rfl hkC ⟨fun h => vp_in_j hj hlt (Or.inl h), by show _ < (arrV _ _ _).slots.size; rw [arrV_size, nat_of_toInt hj]; exact hlt⟩ g1 (fun q h => by rw [g3] at h; cases h) (by rw [g2]; exact hkC) (by rw [g2]; exact va_assign hcls) rfl rfl hd fun H1 e z oq => ?_
  rw [nat_of_toInt hj] at e ⊢
  refine kk G p l _ R s m args below meth c Z mc ms C hR H1 _ cells slots ls (hH.put ha z oq ?_ (fun i hi => ⟨rfl, up2_a hi⟩)) (hS.put z oq (gAd_A G ha.1)) hc hs hl
  rw [gE_arq hsh (by omega)]
  show H1[gAd G a]? = some (vp_cell _ _)
  rw [e]
  rw [vp_cell_q, vp_cell_q, arrV_store]
  congr 2
  funext q
  by_cases hq : q = j
  · subst hq
    simp [updV, up2, va_rf]
  · simp [updV, up2, hq]
/-- a new object -/
theorem V_new {ci index : Nat} {cl' sl' : Nat} (hd : decode K.2.1 pc = .ok (.new index, 3)) (hsh : SH n = .inl ci) (hci : ci < 9) (hw : Cond.classLink K.1.cls index (gRX ci) ∈ TBL) (hi : Cond.instantiable (gRX ci) (gN ci) ∈ TBL) (hin : Cond.initialized (gRX ci) ∈ TBL) (hcl : cl = cl' + 1) (hsl : sl = sl' + gN ci)
    (kk : V K d cl' sl' Q (pc + 3) L (.ref n :: st) (n + 1) (mi0 mi n) (mr0 mr n)) : V K d cl sl Q pc L st n mi mr := by
  intro G p l e R s m args below meth c Z mc ms C hR H locs cells slots ls hH hS hc hs hl
  have hKn := C.2.2.2.2.2.2.2.1.1.1 ci _ (gCls_at hci)
  have hts := C.2.2.2.2.1
  have hRm := C.2.2.2.2.2.1
  refine W.newcK C.1 C.2.1 C.2.2.2.1 (hts _ hw) (hts _ hi) (hts _ hin) rfl hd (by omega) (by omega) hKn.2.1 rfl fun H1 kC hkC e1 z1 o1 => ?_
  have hn := gAd_own G hH.1
  rw [← hH.2.1] at hn
  have k2 := kk G p l e R s m args below meth c Z mc ms C hR H1 locs (cells + 1) (slots + gN ci) ls (hH.push z1 o1 ?_) (hS.push (by omega) o1) (by omega) (by omega) hl
  · show W p l e R s m args below meth c H1 locs (cells + 1) (slots + gN ci) Z (F0 m (pc + 3) ls (.ref H.size :: st.map (gV G)))
    rw [← hn]
    exact k2
  · rw [gE_obj hsh]
    refine ⟨_, gCls_at hci, (u_born (gFT ci) hts (gIn_ok hci) hKn hkC e1 (gTy_ok hci)).to (fun j hj => ?_)⟩
    have h9 := gFT_no hci j hj
    rcases gFs_new (G := G) (mi := mi) (mr := mr) (n := n) j hj with h | h | h | h
    · exact h
    · exact absurd h h9.1
    · exact absurd h h9.2.1
    · exact absurd h h9.2.2
/-- a new array of numbers -/
theorem V_newa {t len : Nat} {x : Int32} {cl' sl' : Nat} {atype : ArrayType} (hd : decode K.2.1 pc = .ok (.newarray atype, 2)) (hsh : SH n = .inr (t, len)) (hat : newarray.typeOf atype = gTy t) (ht : t < 3) (hw : Cond.arrayClass (gTy t) ∈ TBL) (hx : x.toInt = (len : Int)) (hb : len * componentBytes (gTy t) ≤ 536870912) (hcl : cl = cl' + 1) (hsl : sl = sl' + len)
    (kk : V K d cl' sl' Q (pc + 2) L (.ref n :: st) (n + 1) (mi0 mi n) (mr0 mr n)) : V K d cl sl Q pc L (.int x :: st) n mi mr := by
  intro G p l e R s m args below meth c Z mc ms C hR H locs cells slots ls hH hS hc hs hl
  have hts := C.2.2.2.2.1
  have hRm := C.2.2.2.2.2.1
  have hx0 : ¬ x < 0 := fun h => by
    rw [Int32.lt_iff_toInt_lt, Int32.toInt_zero] at h
    omega
  refine va_newaK C.1 C.2.1 (by rw [hat]; exact hts _ hw) rfl hd rfl hx0 (nat_of_toInt hx) (by rw [hat]; exact hb) (by omega) (by omega) rfl fun H1 cA e1 z1 o1 hAr hNm => ?_
  have hcA : cA = gC G t := by
    have h1 := (C.2.2.2.2.2.2.2.1.1.2 t _ (gTys_at G (by omega))).2
    rw [hat] at hNm
    match t, ht, h1, hNm with
    | 0, _, h1, hNm => exact Option.some.inj (hNm.symm.trans h1)
    | 1, _, h1, hNm => exact Option.some.inj (hNm.symm.trans h1)
    | 2, _, h1, hNm => exact Option.some.inj (hNm.symm.trans h1)
  have hn := gAd_own G hH.1
  rw [← hH.2.1] at hn
  have k2 := kk G p l e R s m args below meth c Z mc ms C hR H1 locs (cells + 1) (slots + len) ls (hH.push z1 o1 ?_) (hS.push (by omega) o1) (by omega) (by omega) hl
  · show W p l e R s m args below meth c H1 locs (cells + 1) (slots + len) Z (F0 m (pc + 2) ls (.ref H.size :: st.map (gV G)))
    rw [← hn]
    exact k2
  · rw [gE_arr hsh ht]
    show H1[H.size]? = some (vp_cell _ _)
    rw [e1, hat, hcA, vp_cell_i]
    congr 2
    funext j
    rw [mi0_s]
    match t, ht with
    | 0, _ => rfl
    | 1, _ => rfl
    | 2, _ => rfl
end AR
