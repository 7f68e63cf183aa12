/-! heap instructions over V -/
def gT : Nat → u_T := fun k => match k with
  | 0 => TX0
  | 1 => TX1
  | 2 => TX2
  | 3 => TX3
  | 4 => TX4
  | 5 => TX5
  | 6 => TX6
  | 7 => TX7
  | _ => TX8
def gRX : Nat → String := fun k => match k with
  | 0 => RX0
  | 1 => RX1
  | 2 => RX2
  | 3 => RX3
  | 4 => RX4
  | 5 => RX5
  | 6 => RX6
  | 7 => RX7
  | _ => RX8
theorem gCls_at {ci : Nat} (h : ci < 9) : gCls[ci]? = some (gRX ci, gT ci, gN ci) := by
  match ci, h with
  | 0, _ => rfl
  | 1, _ => rfl
  | 2, _ => rfl
  | 3, _ => rfl
  | 4, _ => rfl
  | 5, _ => rfl
  | 6, _ => rfl
  | 7, _ => rfl
  | 8, _ => rfl
theorem gTy_ok {ci : Nat} (h : ci < 9) : ∀ k, k < gN ci → parseFieldDescriptor (gT ci k).2.2.1 = some (gFT ci k) := by
  match ci, h with
  | 0, _ => exact tyX0_ok
  | 1, _ => exact tyX1_ok
  | 2, _ => exact tyX2_ok
  | 3, _ => exact tyX3_ok
  | 4, _ => exact tyX4_ok
  | 5, _ => exact tyX5_ok
  | 6, _ => exact tyX6_ok
  | 7, _ => exact tyX7_ok
  | 8, _ => exact tyX8_ok
theorem gNm_ok {ci : Nat} (h : ci < 9) : ∀ a, a < gN ci → ∀ b, b < gN ci → a ≠ b → (gT ci a).2.1 ≠ (gT ci b).2.1 := by
  match ci, h with
  | 0, _ => exact nmX0
  | 1, _ => exact nmX1
  | 2, _ => exact nmX2
  | 3, _ => exact nmX3
  | 4, _ => exact nmX4
  | 5, _ => exact nmX5
  | 6, _ => exact nmX6
  | 7, _ => exact nmX7
  | 8, _ => exact nmX8
def inB (ci : Nat) : Bool := (u_ws (gRX ci) (gT ci) (gN ci)).all (fun w => goodWord w && lw_tbl.any (fun z => decide (z = w)))
theorem inB_use {ci : Nat} (h : inB ci = true) : ∀ w ∈ u_ws (gRX ci) (gT ci) (gN ci), w ∈ TBL := by
  intro w hw
  have h1 := List.all_eq_true.mp h w hw
  rw [Bool.and_eq_true] at h1
  obtain ⟨z, hz, h2⟩ := List.any_eq_true.mp h1.2
  have e : z = w := of_decide_eq_true h2
  subst e
  exact TBL_of hz h1.1
theorem inB0 : inB 0 = true := by decide +kernel
theorem inB1 : inB 1 = true := by decide +kernel
theorem inB2 : inB 2 = true := by decide +kernel
theorem inB3 : inB 3 = true := by decide +kernel
theorem inB4 : inB 4 = true := by decide +kernel
theorem inB5 : inB 5 = true := by decide +kernel
theorem inB6 : inB 6 = true := by decide +kernel
theorem inB7 : inB 7 = true := by decide +kernel
theorem inB8 : inB 8 = true := by decide +kernel
theorem gIn_ok {ci : Nat} (h : ci < 9) : ∀ w ∈ u_ws (gRX ci) (gT ci) (gN ci), w ∈ TBL := by
  match ci, h with
  | 0, _ => exact inB_use inB0
  | 1, _ => exact inB_use inB1
  | 2, _ => exact inB_use inB2
  | 3, _ => exact inB_use inB3
  | 4, _ => exact inB_use inB4
  | 5, _ => exact inB_use inB5
  | 6, _ => exact inB_use inB6
  | 7, _ => exact inB_use inB7
  | 8, _ => exact inB_use inB8
def gLink (own : String) (index ci k : Nat) : Prop := Cond.fieldLink own index (gT ci k).1 (gT ci k).2.1 (gT ci k).2.2.1 ∈ TBL ∨ ∃ host, Cond.fieldLinkNest own index (gT ci k).1 (gT ci k).2.1 (gT ci k).2.2.1 host ∈ nestL
def up2 {α : Type} (f : Nat → Nat → α) (a k : Nat) (x : α) : Nat → Nat → α := fun i j => if i = a ∧ j = k then x else f i j
theorem up2_s {α : Type} {f : Nat → Nat → α} {a k : Nat} {x : α} : up2 f a k x a k = x := by simp [up2]
theorem up2_a {α : Type} {f : Nat → Nat → α} {a k i : Nat} {x : α} (h : i ≠ a) : up2 f a k x i = f i := by funext j; simp [up2, h]
theorem up2_k {α : Type} {f : Nat → Nat → α} {a k i j : Nat} {x : α} (h : j ≠ k) : up2 f a k x i j = f i j := by simp [up2, h]
theorem gAd_own (G : GT) {i : Nat} (h : 32 ≤ i) : gAd G i = gS0 G + (i - 32) := by unfold gAd; rw [if_neg (by omega)]
theorem gAd_inj (G : GT) {i j : Nat} (hi : 32 ≤ i) (hj : 32 ≤ j) (h : gAd G i = gAd G j) : i = j := by
  rw [gAd_own G hi, gAd_own G hj] at h
  omega
theorem gAd_A (G : GT) {i : Nat} (hi : 32 ≤ i) : gA G (gAd G i) := by
  show gS0 G ≤ gAd G i
  rw [gAd_own G hi]
  omega
def gFs (G : GT) (mi : MI) (mr : MR) (i ci : Nat) : List Value := (List.range (gN ci)).map (fun k => if gRf (gFT ci k) = true then va_rf ((mr i k).map (gAd G)) else .int (mi i k))
theorem gE_obj {G : GT} {mi : MI} {mr : MR} {i ci : Nat} (h : SH i = .inl ci) : gE G mi mr i = .inr (ci, gFs G mi mr i ci) := by unfold gE; rw [h]; rfl
theorem gE_arr {G : GT} {mi : MI} {mr : MR} {i t len : Nat} (h : SH i = .inr (t, len)) (ht : t < 3) : gE G mi mr i = .inl (gC G t, len, .inl (mi i)) := by unfold gE; rw [h]; simp [ht]
theorem gE_arq {G : GT} {mi : MI} {mr : MR} {i t len : Nat} (h : SH i = .inr (t, len)) (ht : ¬ t < 3) : gE G mi mr i = .inl (gC G t, len, .inr (.inr (.inr (.inr (fun j => (mr i j).map (gAd G)))))) := by unfold gE; rw [h]; simp [ht]
theorem gFs_at {G : GT} {mi : MI} {mr : MR} {i ci k : Nat} (hk : k < gN ci) : (gFs G mi mr i ci)[k]? = some (if gRf (gFT ci k) = true then va_rf ((mr i k).map (gAd G)) else .int (mi i k)) := by simp [gFs, hk]
theorem gFs_len {G : GT} {mi : MI} {mr : MR} {i ci : Nat} : (gFs G mi mr i ci).length = gN ci := by simp [gFs]
theorem va_P_one {D : va_G} {cl : List vw_C} {q : Nat × va_E} {H : Heap} (h : va_at D cl q H) : va_P D cl [q] H := by
  intro k x hk
  match k, hk with
  | 0, hk => cases hk; exact h
theorem gH.at {G : GT} {n : Nat} {mi : MI} {mr : MR} {H : Heap} (h : gH G n mi mr H) {a : Nat} (ha : 32 ≤ a ∧ a < n) : va_at (gD G) gCls (gAd G a, gE G mi mr a) H := h.2.2.1 a ha.1 ha.2
theorem gH.put {G : GT} {n : Nat} {mi mi' : MI} {mr mr' : MR} {H H1 : Heap} (h : gH G n mi mr H) {a : Nat} (ha : 32 ≤ a ∧ a < n) (hz : H1.size = H.size) (ho : ∀ q, q ≠ gAd G a → H1[q]? = H[q]?) (he : va_at (gD G) gCls (gAd G a, gE G mi' mr' a) H1) (hs : ∀ i, i ≠ a → mi' i = mi i ∧ mr' i = mr i) : gH G n mi' mr' H1 := by
  refine ⟨h.1, hz.trans h.2.1, fun i h1 h2 => ?_, h.2.2.2.1.trans (hs 0 (by omega)).1.symm, by rw [(hs 0 (by omega)).2]; exact h.2.2.2.2⟩
  by_cases e : i = a
  · subst e
    exact he
  · have e2 : gE G mi' mr' i = gE G mi mr i := by
      unfold gE
      rw [(hs i e).1, (hs i e).2]
    rw [e2]
    exact (h.2.2.1 i h1 h2).kept (ho _ (fun z => e (gAd_inj G h1 ha.1 z)))
section HP
variable {K : KT} {d cl sl : Nat} {Q : QT} {pc : Nat} {L : List (Option Value)} {st : List Value} {n : Nat} {mi : MI} {mr : MR}
theorem V_getv {a ci k index : Nat} {v : Value} (hd : decode K.2.1 pc = .ok (.getfield index, 3)) (hsh : SH a = .inl ci) (ha : 32 ≤ a ∧ a < n) (hci : ci < 9) (hk : k < gN ci) (hw : gLink K.1.cls index ci k) (hv : ∀ G : GT, (gFs G mi mr a ci)[k]? = some (gV G v))
    (kk : V K d cl sl Q (pc + 3) L (v :: st) n mi mr) : V K d cl sl Q pc L (.ref a :: st) n mi mr := by
  intro G p l e R s m args below meth c Z mc ms C hR H locs cells slots ls hH hS hc hs hl
  have hP := va_P_one (hH.at ha)
  rw [gE_obj hsh] at hP
  rcases hw with hw | ⟨host, hw⟩
  · exact va_get (T := gT ci) (N := gN ci) (C := gRX ci) C.1 C.2.1 C.2.2.2.2.1 (gIn_ok hci) C.2.2.2.1 C.2.2.2.2.2.2.2.1.1 hP 0 rfl (gCls_at hci) k hk (C.2.2.2.2.1 _ hw) (fun x h => h) (hv G) hd (kk G p l e R s m args below meth c Z mc ms C hR H locs cells slots ls hH hS hc hs hl)
  · exact va_getN (T := gT ci) (N := gN ci) (C := gRX ci) C.1 C.2.1 C.2.2.2.2.1 (gIn_ok hci) C.2.2.2.1 C.2.2.2.2.2.2.2.1.1 hP 0 rfl (gCls_at hci) k hk (nest_use (nestL_ok _ hw) (C.2.2.2.2.2.2.2.1.2.1 _ hw)) (fun x h => h) (hv G) hd (kk G p l e R s m args below meth c Z mc ms C hR H locs cells slots ls hH hS hc hs hl)
theorem V_geti {a index : Nat} (ci k : Nat) (hd : decode K.2.1 pc = .ok (.getfield index, 3)) (hw : gLink K.1.cls index ci k) (hf : (decide (ci < 9) && decide (k < gN ci) && !gRf (gFT ci k)) = true) (hsh : SH a = .inl ci) (ha : 32 ≤ a ∧ a < n)
    (kk : V K d cl sl Q (pc + 3) L (.int (mi a k) :: st) n mi mr) : V K d cl sl Q pc L (.ref a :: st) n mi mr := by
  simp only [Bool.and_eq_true, decide_eq_true_eq, Bool.not_eq_true'] at hf
  refine V_getv hd hsh ha hf.1.1 hf.1.2 hw (fun G => ?_) kk
  rw [gFs_at hf.1.2, hf.2]
  rfl
theorem V_getr {a b index : Nat} (ci k : Nat) (hd : decode K.2.1 pc = .ok (.getfield index, 3)) (hw : gLink K.1.cls index ci k) (hf : (decide (ci < 9) && decide (k < gN ci) && gRf (gFT ci k)) = true) (hsh : SH a = .inl ci) (ha : 32 ≤ a ∧ a < n) (hb : mr a k = some b)
    (kk : V K d cl sl Q (pc + 3) L (.ref b :: st) n mi mr) : V K d cl sl Q pc L (.ref a :: st) n mi mr := by
  simp only [Bool.and_eq_true, decide_eq_true_eq] at hf
  refine V_getv hd hsh ha hf.1.1 hf.1.2 hw (fun G => ?_) kk
  rw [gFs_at hf.1.2, hf.2, hb]
  rfl
/-- the heap behind a putfield -/
theorem gH.field {G : GT} {U : State} (hK : va_K (gD G) gCls (gTys G) U) {Ts : List Cond} {args : Array Value} (hts : ∀ w ∈ Ts, w.before args U = true) {H H1 : Heap} {a ci k : Nat} {v : Value} {mi' : MI} {mr' : MR} (hci : ci < 9) (hin : ∀ w ∈ u_ws (gRX ci) (gT ci) (gN ci), w ∈ Ts) (hk : k < gN ci) (hsh : SH a = .inl ci) (h : gH G n mi mr H) (ha : 32 ≤ a ∧ a < n)
    {cell : Cell} (q2 : cell.cls = (gD G).1 ci) (q3 : cell.vm = .none) (q4 : ∀ j, j < gN ci → cell.slots[(gD G).2 ci j]? = some (vp_V (gFs G mi mr a ci) j)) (e1 : H1[gAd G a]? = some (cell.setSlot ((gD G).2 ci k) v)) (hz : H1.size = H.size) (ho : ∀ q, q ≠ gAd G a → H1[q]? = H[q]?)
    (hset : (gFs G mi mr a ci).set k v = gFs G mi' mr' a ci) (hs : ∀ i, i ≠ a → mi' i = mi i ∧ mr' i = mr i) : gH G n mi' mr' H1 := by
  have hap := va_apart (own := "") hts hin (gFT ci) (gTy_ok hci) (gNm_ok hci) hK (gCls_at hci)
  refine h.put ha hz ho ?_ hs
  rw [gE_obj hsh, ← hset]
  exact ⟨_, gCls_at hci, t_OB.to (V := updV (vp_V (gFs G mi mr a ci)) k v) ⟨_, e1, q2, q3, t_set q4 hap hk v⟩ (fun j _ => vp_updV_set (by rw [gFs_len]; exact hk) v j)⟩
theorem gFs_seti {G : GT} {a ci k : Nat} {x : Int32} (hk : k < gN ci) (hf : gRf (gFT ci k) = false) : (gFs G mi mr a ci).set k (.int x) = gFs G (up2 mi a k x) mr a ci := by
  apply List.ext_getElem?
  intro j
  by_cases hj : j < gN ci
  · by_cases e : k = j
    · subst e
      rw [List.getElem?_set_self (by rw [gFs_len]; exact hk), gFs_at hk, hf, up2_s]
      rfl
    · rw [List.getElem?_set_ne e, gFs_at hj, gFs_at hj, up2_k (fun z => e z.symm)]
  · rw [List.getElem?_eq_none (by rw [List.length_set, gFs_len]; omega), List.getElem?_eq_none (by rw [gFs_len]; omega)]
theorem gFs_setr {G : GT} {a ci k b : Nat} (hk : k < gN ci) (hf : gRf (gFT ci k) = true) : (gFs G mi mr a ci).set k (.ref (gAd G b)) = gFs G mi (up2 mr a k (some b)) a ci := by
  apply List.ext_getElem?
  intro j
  by_cases hj : j < gN ci
  · by_cases e : k = j
    · subst e
      rw [List.getElem?_set_self (by rw [gFs_len]; exact hk), gFs_at hk, hf, up2_s]
      rfl
    · rw [List.getElem?_set_ne e, gFs_at hj, gFs_at hj, up2_k (fun z => e z.symm)]
  · rw [List.getElem?_eq_none (by rw [List.length_set, gFs_len]; omega), List.getElem?_eq_none (by rw [gFs_len]; omega)]
theorem V_putv {a ci k index : Nat} {v : Value} {mi' : MI} {mr' : MR} (hd : decode K.2.1 pc = .ok (.putfield index, 3)) (hsh : SH a = .inl ci) (ha : 32 ≤ a ∧ a < n) (hci : ci < 9) (hk : k < gN ci) (hw : gLink K.1.cls index ci k) (hfin : (gT ci k).2.2.2 = false ∨ (K.1.name = "<init>" ∧ (gT ci k).1 = K.1.cls ∧ Cond.fieldLink K.1.cls index (gT ci k).1 (gT ci k).2.1 (gT ci k).2.2.1 ∈ TBL))
    (hn : ∀ G : GT, narrow (gFT ci k) (gV G v) = gV G v) (hfit : ∀ G : GT, fits (gFT ci k) (gV G v) = true) (hset : ∀ G : GT, (gFs G mi mr a ci).set k (gV G v) = gFs G mi' mr' a ci) (hs : ∀ i, i ≠ a → mi' i = mi i ∧ mr' i = mr i)
    (kk : V K d cl sl Q (pc + 3) L st n mi' mr') : V K d cl sl Q pc L (v :: .ref a :: st) n mi mr := by
  intro G p l e R s m args below meth c Z mc ms C hR H locs cells slots ls hH hS hc hs' hl
  have hat := hH.at ha
  rw [gE_obj hsh] at hat
  obtain ⟨r, h1, cell, q1, q2, q3, q4⟩ := hat
  have hcl := gCls_at hci
  have hr : r = (gRX ci, gT ci, gN ci) := Option.some.inj (h1.symm.trans hcl)
  subst hr
  have hK := C.2.2.2.2.2.2.2.1.1
  have hts := C.2.2.2.2.1
  have hin := gIn_ok hci
  obtain ⟨hS0, hfc, kC, hkC, hkind⟩ := hK.1 ci _ hcl
  obtain ⟨cf, kf, fi, f, hi, hsl⟩ := hS0 k hk
  have hlay := hts _ (hin _ (u_in_lay hk))
  unfold u_lay at hlay
  have hst := (u_facts hfc hkC (u_lays hts hin hk) hi).1
  have fin : ∀ (H' : Heap), H'[gAd G a]? = some (cell.setSlot f.slot (gV G v)) → H'.size = H.size → (∀ q, q ≠ gAd G a → H'[q]? = H[q]?) → W p l e R s m args below meth c H' (locs ++ [⟨gAd G a, f.slot⟩]) cells slots Z (F0 m (pc + 3) ls (st.map (gV G))) := by
    intro H' e1 e2 e3
    have e1' : H'[gAd G a]? = some (cell.setSlot ((gD G).2 ci k) (gV G v)) := by rw [← hsl]; exact e1
    exact kk G p l e R s m args below meth c Z mc ms C hR H' _ cells slots ls (gH.field hK hts hci hin hk hsh hH ha q2 q3 q4 e1' e2 e3 (hset G) hs) (hS.put e2 e3 (gAd_A G ha.1)) hc hs' hl
  have hhas : f.slot < cell.slots.size := by rw [hsl]; exact k2_hasslot (q4 k hk)
  rcases hfin with hfin | ⟨hnm, hdecl, hwl⟩
  · rw [if_neg (by rw [hfin]; decide)] at hlay
    have h6 := u_store hfc hkC hkind hlay hi (gTy_ok hci k hk) (hn G) (hfit G)
    rcases hw with hw | ⟨host, hw⟩
    · exact W.putK C.1 C.2.1 (f := f) ⟨C.2.2.2.1, hts _ hw, ⟨_, _, _, hi⟩, hst⟩ (by rw [q2]; exact h6) q1 q3 hhas rfl rfl hd fin
    · exact va_WputK C.1 C.2.1 (f := f) C.2.2.2.1 (nest_use (nestL_ok _ hw) (C.2.2.2.2.2.2.2.1.2.1 _ hw)) hi hst (by rw [q2]; exact h6) q1 q3 hhas rfl rfl hd fin
  · by_cases hfb : (gT ci k).2.2.2 = true
    · rw [if_pos hfb] at hlay
      have hcf : m.cls = cf := by
        obtain ⟨_, _, c', _, _, _, -, -, hf', -, -, -, hown2, -⟩ := Cond.laysFinal_spec hlay
        have e1 : c' = cf := by have := hi.symm.trans hf'; simp at this; exact this.1.symm
        rw [hdecl] at hown2
        rw [← e1]; exact Option.some.inj (C.2.2.2.1.symm.trans hown2)
      have h6 := u_fits hfc hkC hkind (Or.inr hlay) hi (gTy_ok hci k hk) (hn G) (hfit G)
      exact W.putFinK C.1 C.2.1 C.2.2.2.1 (hts _ hwl) hi hst hcf (C.2.2.2.2.2.2.1.trans hnm) (by rw [q2]; exact h6) q1 q3 hhas rfl rfl hd fin
    · have hfin : (gT ci k).2.2.2 = false := by simpa using hfb
      rw [if_neg (by rw [hfin]; decide)] at hlay
      have h6 := u_store hfc hkC hkind hlay hi (gTy_ok hci k hk) (hn G) (hfit G)
      exact W.putK C.1 C.2.1 (f := f) ⟨C.2.2.2.1, hts _ hwl, ⟨_, _, _, hi⟩, hst⟩ (by rw [q2]; exact h6) q1 q3 hhas rfl rfl hd fin
/-- an int (or char, or truth) into a field that isn't final -/
theorem V_puti {a index : Nat} {x : Int32} (ci k : Nat) (hd : decode K.2.1 pc = .ok (.putfield index, 3)) (hw : gLink K.1.cls index ci k) (hf : (decide (ci < 9) && decide (k < gN ci) && !gRf (gFT ci k) && !(gT ci k).2.2.2) = true) (hn : narrow (gFT ci k) (.int x) = .int x) (hfit : fits (gFT ci k) (.int x) = true) (hsh : SH a = .inl ci) (ha : 32 ≤ a ∧ a < n)
    (kk : V K d cl sl Q (pc + 3) L st n (up2 mi a k x) mr) : V K d cl sl Q pc L (.int x :: .ref a :: st) n mi mr := by
  simp only [Bool.and_eq_true, decide_eq_true_eq, Bool.not_eq_true'] at hf
  exact V_putv hd hsh ha hf.1.1.1 hf.1.1.2 hw (Or.inl hf.2) (fun G => hn) (fun G => hfit) (fun G => gFs_seti hf.1.1.2 hf.1.2) (fun i h => ⟨up2_a h, rfl⟩) kk
theorem V_putiF {a index : Nat} {x : Int32} (ci k : Nat) (hd : decode K.2.1 pc = .ok (.putfield index, 3)) (hw : Cond.fieldLink K.1.cls index (gT ci k).1 (gT ci k).2.1 (gT ci k).2.2.1 ∈ TBL) (hf : (decide (ci < 9) && decide (k < gN ci) && !gRf (gFT ci k)) = true) (hnm : K.1.name = "<init>" ∧ (gT ci k).1 = K.1.cls) (hn : narrow (gFT ci k) (.int x) = .int x) (hfit : fits (gFT ci k) (.int x) = true) (hsh : SH a = .inl ci) (ha : 32 ≤ a ∧ a < n)
    (kk : V K d cl sl Q (pc + 3) L st n (up2 mi a k x) mr) : V K d cl sl Q pc L (.int x :: .ref a :: st) n mi mr := by
  simp only [Bool.and_eq_true, decide_eq_true_eq, Bool.not_eq_true'] at hf
  exact V_putv hd hsh ha hf.1.1 hf.1.2 (Or.inl hw) (Or.inr ⟨hnm.1, hnm.2, hw⟩) (fun G => hn) (fun G => hfit) (fun G => gFs_seti hf.1.2 hf.2) (fun i h => ⟨up2_a h, rfl⟩) kk
theorem V_putr {a b index : Nat} (ci k : Nat) (hd : decode K.2.1 pc = .ok (.putfield index, 3)) (hw : gLink K.1.cls index ci k) (hf : (decide (ci < 9) && decide (k < gN ci) && gRf (gFT ci k) && !(gT ci k).2.2.2) = true) (hsh : SH a = .inl ci) (ha : 32 ≤ a ∧ a < n)
    (kk : V K d cl sl Q (pc + 3) L st n mi (up2 mr a k (some b))) : V K d cl sl Q pc L (.ref b :: .ref a :: st) n mi mr := by
  simp only [Bool.and_eq_true, decide_eq_true_eq, Bool.not_eq_true'] at hf
  exact V_putv hd hsh ha hf.1.1.1 hf.1.1.2 hw (Or.inl hf.2) (fun G => by have := hf.1.2; cases h : gFT ci k <;> simp_all [gRf, narrow, gV]) (fun G => by have := hf.1.2; cases h : gFT ci k <;> simp_all [gRf, fits, gV]) (fun G => gFs_setr hf.1.1.2 hf.1.2) (fun i h => ⟨rfl, up2_a h⟩) kk
theorem V_putrF {a b index : Nat} (ci k : Nat) (hd : decode K.2.1 pc = .ok (.putfield index, 3)) (hw : Cond.fieldLink K.1.cls index (gT ci k).1 (gT ci k).2.1 (gT ci k).2.2.1 ∈ TBL) (hf : (decide (ci < 9) && decide (k < gN ci) && gRf (gFT ci k)) = true) (hnm : K.1.name = "<init>" ∧ (gT ci k).1 = K.1.cls) (hsh : SH a = .inl ci) (ha : 32 ≤ a ∧ a < n)
    (kk : V K d cl sl Q (pc + 3) L st n mi (up2 mr a k (some b))) : V K d cl sl Q pc L (.ref b :: .ref a :: st) n mi mr := by
  simp only [Bool.and_eq_true, decide_eq_true_eq, Bool.not_eq_true'] at hf
  exact V_putv hd hsh ha hf.1.1 hf.1.2 (Or.inl hw) (Or.inr ⟨hnm.1, hnm.2, hw⟩) (fun G => by have := hf.2; cases h : gFT ci k <;> simp_all [gRf, narrow, gV]) (fun G => by have := hf.2; cases h : gFT ci k <;> simp_all [gRf, fits, gV]) (fun G => gFs_setr hf.1.2 hf.2) (fun i h => ⟨rfl, up2_a h⟩) kk
end HP
