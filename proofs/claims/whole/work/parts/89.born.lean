/-! what is made: constructors -/
theorem up2_n {α : Type} {m : Nat → Nat → α} {a k i j : Nat} {x : α} (h : ¬ (i = a ∧ j = k)) : up2 m a k x i j = m i j := by
  simp only [up2]
  rw [if_neg h]
theorem mi0_n {m : MI} {n i j : Nat} (h : i ≠ n) : mi0 m n i j = m i j := by rw [mi0_a h]
theorem mr0_n {m : MR} {n i j : Nat} (h : i ≠ n) : mr0 m n i j = m i j := by rw [mr0_a h]
theorem miR_n {m : MI} {n k i j : Nat} (h : ¬ (n ≤ i ∧ i < n + k)) : miR m n k i j = m i j := if_neg h
theorem mrG_n {m : MR} {n k i j : Nat} (h : ¬ (n ≤ i ∧ i < n + 1 + k)) : mrG m n k i j = m i j := by
  unfold mrG
  rw [if_neg (by omega), if_neg (by omega)]
theorem mrG_s {m : MR} {n k i j : Nat} (h : i = n) (hj : j < k) : mrG m n k i j = some (n + 1 + j) := by
  unfold mrG
  rw [if_pos h, if_pos hj]
theorem up2_h {α : Type} {m : Nat → Nat → α} {a k i j : Nat} {x : α} (h : i = a) (h2 : j = k) : up2 m a k x i j = x := by
  subst h; subst h2
  exact up2_s
/-- made are the cells from lo to hi, the others are as they were -/
def born (lo hi : Nat) (mi mi' : MI) (mr mr' : MR) : Prop := (∀ i, i < lo → ∀ k, mi' i k = mi i k ∧ mr' i k = mr i k) ∧ ∀ i k b, lo ≤ i → i < hi → RT i k = some b → mr' i k = some b
theorem RT_V {a : Nat} (h : isV a) {o k : Nat} (ho : o < 4) : RT (a + o) k = RTV a o k := by
  unfold RT
  rcases h with rfl | ⟨i, hi, rfl⟩
  · rw [if_neg (by omega), if_pos (by omega), Nat.add_sub_cancel_left]
  · rw [if_neg (by omega), if_neg (by omega), if_neg (by omega), if_neg (by omega), if_pos (by omega), show 153 + (153 + 4 * i + o - 153) / 4 * 4 = 153 + 4 * i by omega, show (153 + 4 * i + o - 153) % 4 = o by omega]
theorem RT_W {w : Nat} (h : isW w) {o k : Nat} (ho : o < 30) : RT (w + o) k = RTW w o k := by
  have hl := h.le
  unfold RT
  rw [if_neg (by omega), if_neg (by omega), if_pos (by omega), show 40 + (w + o - 40) / 30 * 30 = w by (rcases h with rfl | rfl | rfl <;> omega), show (w + o - 40) % 30 = o by (rcases h with rfl | rfl | rfl <;> omega)]
theorem RTV_v {a o k b : Nat} (h : RTV a o k = some b) : o = 0 ∧ ((k = 4 ∧ a + 1 = b) ∨ (k = 5 ∧ a + 2 = b) ∨ (k = 6 ∧ a + 3 = b)) := by
  unfold RTV at h
  split at h
  all_goals first | (cases h; done) | (cases h; omega)
theorem RTW_if {p : Prop} [Decidable p] {x b : Nat} (h : (if p then some x else none) = some b) : p ∧ x = b := by
  by_cases hp : p
  · rw [if_pos hp] at h
    exact ⟨hp, Option.some.inj h⟩
  · rw [if_neg hp] at h
    cases h
theorem RTW_0 {w b : Nat} : ∀ {k : Nat}, RTW w 0 k = some b → (k = 6 ∧ w + 1 = b) ∨ (k = 7 ∧ w + 2 = b) ∨ (k = 8 ∧ w + 3 = b) ∨ (k = 9 ∧ w + 4 = b) ∨ (k = 10 ∧ w + 5 = b) ∨ (k = 11 ∧ w + 9 = b) ∨ (k = 12 ∧ w + 13 = b) ∨ (k = 13 ∧ w + 17 = b)
  | 0, h => by cases (show (none : Option Nat) = some b from h)
  | 1, h => by cases (show (none : Option Nat) = some b from h)
  | 2, h => by cases (show (none : Option Nat) = some b from h)
  | 3, h => by cases (show (none : Option Nat) = some b from h)
  | 4, h => by cases (show (none : Option Nat) = some b from h)
  | 5, h => by cases (show (none : Option Nat) = some b from h)
  | 6, h => by
    have h2 := Option.some.inj (show some (w + 1) = some b from h)
    omega
  | 7, h => by
    have h2 := Option.some.inj (show some (w + 2) = some b from h)
    omega
  | 8, h => by
    have h2 := Option.some.inj (show some (w + 3) = some b from h)
    omega
  | 9, h => by
    have h2 := Option.some.inj (show some (w + 4) = some b from h)
    omega
  | 10, h => by
    have h2 := Option.some.inj (show some (w + 5) = some b from h)
    omega
  | 11, h => by
    have h2 := Option.some.inj (show some (w + 9) = some b from h)
    omega
  | 12, h => by
    have h2 := Option.some.inj (show some (w + 13) = some b from h)
    omega
  | 13, h => by
    have h2 := Option.some.inj (show some (w + 17) = some b from h)
    omega
  | _ + 14, h => by cases (show (none : Option Nat) = some b from h)
theorem RTW_18 {w o b : Nat} : ∀ {k : Nat}, RTW w (o + 18) k = some b → o % 2 = 0 ∧ k = 6 ∧ w + 19 + o = b
  | 0, h => by cases (show (none : Option Nat) = some b from h)
  | 1, h => by cases (show (none : Option Nat) = some b from h)
  | 2, h => by cases (show (none : Option Nat) = some b from h)
  | 3, h => by cases (show (none : Option Nat) = some b from h)
  | 4, h => by cases (show (none : Option Nat) = some b from h)
  | 5, h => by cases (show (none : Option Nat) = some b from h)
  | 6, h => by
    have h2 := RTW_if (show (if o % 2 = 0 then some (w + 19 + o) else none) = some b from h)
    omega
  | _ + 7, h => by cases (show (none : Option Nat) = some b from h)
theorem RTW_v {w k b : Nat} : ∀ {o : Nat}, RTW w o k = some b → (o = 0 ∧ ((k = 6 ∧ w + 1 = b) ∨ (k = 7 ∧ w + 2 = b) ∨ (k = 8 ∧ w + 3 = b) ∨ (k = 9 ∧ w + 4 = b) ∨ (k = 10 ∧ w + 5 = b) ∨ (k = 11 ∧ w + 9 = b) ∨ (k = 12 ∧ w + 13 = b) ∨ (k = 13 ∧ w + 17 = b))) ∨ (o = 1 ∧ k < 6 ∧ w + 18 + 2 * k = b) ∨ (o = 5 ∧ k < 3 ∧ w + 6 + k = b) ∨ (o = 9 ∧ k < 3 ∧ w + 10 + k = b) ∨ (o = 13 ∧ k < 3 ∧ w + 14 + k = b) ∨ (18 ≤ o ∧ o % 2 = 0 ∧ k = 6 ∧ w + o + 1 = b)
  | 0, h => Or.inl ⟨rfl, RTW_0 h⟩
  | 1, h => by
    have h2 := RTW_if (show (if k < 6 then some (w + 18 + 2 * k) else none) = some b from h)
    omega
  | 2, h => by cases (show (none : Option Nat) = some b from h)
  | 3, h => by cases (show (none : Option Nat) = some b from h)
  | 4, h => by cases (show (none : Option Nat) = some b from h)
  | 5, h => by
    have h2 := RTW_if (show (if k < 3 then some (w + 6 + k) else none) = some b from h)
    omega
  | 6, h => by cases (show (none : Option Nat) = some b from h)
  | 7, h => by cases (show (none : Option Nat) = some b from h)
  | 8, h => by cases (show (none : Option Nat) = some b from h)
  | 9, h => by
    have h2 := RTW_if (show (if k < 3 then some (w + 10 + k) else none) = some b from h)
    omega
  | 10, h => by cases (show (none : Option Nat) = some b from h)
  | 11, h => by cases (show (none : Option Nat) = some b from h)
  | 12, h => by cases (show (none : Option Nat) = some b from h)
  | 13, h => by
    have h2 := RTW_if (show (if k < 3 then some (w + 14 + k) else none) = some b from h)
    omega
  | 14, h => by cases (show (none : Option Nat) = some b from h)
  | 15, h => by cases (show (none : Option Nat) = some b from h)
  | 16, h => by cases (show (none : Option Nat) = some b from h)
  | 17, h => by cases (show (none : Option Nat) = some b from h)
  | o + 18, h => by
    have h2 := RTW_18 h
    omega
theorem RTS_v {o k b : Nat} (h : RTS o k = some b) : (o = 0 ∧ ((k = 0 ∧ 40 = b) ∨ (k = 1 ∧ 131 = b) ∨ (k = 2 ∧ 138 = b) ∨ (3 ≤ k ∧ k < 11 ∧ 142 + k = b))) ∨ (o = 1 ∧ k < 6 ∧ 132 + k = b) ∨ (o = 8 ∧ k < 6 ∧ 139 + k = b) := by
  unfold RTS at h
  split at h
  all_goals first
    | (cases h; done)
    | (cases h; omega)
    | (split at h
       · cases h; omega
       · cases h)
theorem RTM_v {o k b : Nat} (h : RTM o k = some b) : o = 0 ∧ ((k = 1 ∧ 174 = b) ∨ (k = 2 ∧ 175 = b) ∨ (k = 3 ∧ 176 = b) ∨ (k = 10 ∧ 177 = b) ∨ (k = 11 ∧ 178 = b) ∨ (k = 12 ∧ 179 = b) ∨ (k = 13 ∧ 180 = b) ∨ (k = 14 ∧ 181 = b) ∨ (k = 15 ∧ 182 = b) ∨ (k = 16 ∧ 183 = b) ∨ (k = 17 ∧ 184 = b) ∨ (k = 24 ∧ 185 = b)) := by
  unfold RTM at h
  split at h
  all_goals first | (cases h; done) | (cases h; omega)
theorem RTB_v {o k b : Nat} (h : RTB o k = some b) : (o = 32 ∧ ((k = 0 ∧ 33 = b) ∨ (k = 1 ∧ 40 = b) ∨ (k = 2 ∧ 70 = b) ∨ (k = 3 ∧ 100 = b) ∨ (k = 4 ∧ 130 = b) ∨ (k = 5 ∧ 34 = b))) ∨ (o = 33 ∧ k < 5 ∧ 153 + 4 * k = b) ∨ (o = 34 ∧ k = 0 ∧ 35 = b) := by
  unfold RTB at h
  split at h
  all_goals first
    | (cases h; done)
    | (cases h; omega)
    | (split at h
       · cases h; omega
       · cases h)
theorem RT_S {o k : Nat} (ho : o < 23) : RT (130 + o) k = RTS o k := by
  unfold RT
  rw [if_neg (by omega), if_neg (by omega), if_neg (by omega), if_pos (by omega), Nat.add_sub_cancel_left]
theorem RT_M {o k : Nat} (ho : o < 13) : RT (173 + o) k = RTM o k := by
  unfold RT
  rw [if_neg (by omega), if_neg (by omega), if_neg (by omega), if_neg (by omega), if_neg (by omega), if_pos (by omega), Nat.add_sub_cancel_left]
set_option maxRecDepth 4000 in
theorem qX5_forget0 (n : Nat) (mi : MI) (mr : MR) (a : Nat) (hva : isV a) (han : a < n)  : Ct KX5_forget 1 0 0 [.ref a] n mi mr (eqQ none n (up2 (up2 (up2 (up2 mi a 0 18) a 1 60) a 2 0) a 3 0) mr) := by
  refine Ct.of2 [some (.ref a)] (by decide +kernel) (Nat.le_of_ble_eq_true rfl) rfl ?_
  have hle := hva.le
  refine V_aload_n dX5_forget_0 rfl ?_
  refine V_bipush (v := 18) dX5_forget_1 rfl ?_
  refine V_puti 5 0 dX5_forget_3 (Or.inl lkX5_24) rfl rfl rfl (sV hva (o := 0) (by omega)) ⟨by omega, by omega⟩ ?_
  refine V_aload_n dX5_forget_6 rfl ?_
  refine V_bipush (v := 60) dX5_forget_7 rfl ?_
  refine V_puti 5 1 dX5_forget_9 (Or.inl lkX5_28) rfl rfl rfl (sV hva (o := 0) (by omega)) ⟨by omega, by omega⟩ ?_
  refine V_aload_n dX5_forget_12 rfl ?_
  refine V_iconst (v := 0) dX5_forget_13 rfl ?_
  refine V_puti 5 2 dX5_forget_14 (Or.inl lkX5_31) rfl rfl rfl (sV hva (o := 0) (by omega)) ⟨by omega, by omega⟩ ?_
  refine V_aload_n dX5_forget_17 rfl ?_
  refine V_iconst (v := 0) dX5_forget_18 rfl ?_
  refine V_puti 5 3 dX5_forget_19 (Or.inl lkX5_34) rfl rfl rfl (sV hva (o := 0) (by omega)) ⟨by omega, by omega⟩ ?_
  refine V_ret dX5_forget_22 rfl ?_
  exact ⟨rfl, rfl, rfl, rfl⟩
set_option maxRecDepth 4000 in
theorem qX5_init (mi : MI) (mr : MR) (a : Nat) (hva : isV a)  : Ct KX5_init 2 3 120 [.ref a] (a + 1) mi mr (fun r n' mi' mr' => none = r ∧ a + 4 = n' ∧ born a (a + 4) mi mi' mr mr' ∧ mi' a 0 = 18 ∧ mi' a 1 = 60 ∧ mi' a 2 = 0) := by
  refine Ct.of2 [some (.ref a)] (by decide +kernel) (Nat.le_of_ble_eq_true rfl) rfl ?_
  have hle := hva.le
  refine V_aload_n dX5_init_0 rfl ?_
  refine V_objInit dX5_init_1 mlX5_3 im_obj cm_obj (by decide) (Nat.le_of_ble_eq_true rfl) ?_
  refine V_aload_n dX5_init_4 rfl ?_
  refine V_bipush (v := 100) dX5_init_5 rfl ?_
  refine V_newa (t := 0) (len := 100) (cl' := 2) (sl' := 20) dX5_init_7 (sV hva (o := 1) (by omega)) rfl (by decide) ac_int rfl (by decide) rfl rfl ?_
  refine V_putrF 5 4 dX5_init_9  lkX5_9 rfl ⟨rfl, rfl⟩ (sV hva (o := 0) (by omega)) ⟨by omega, by omega⟩ ?_
  refine V_aload_n dX5_init_12 rfl ?_
  refine V_bipush (v := 10) dX5_init_13 rfl ?_
  refine V_newa (t := 0) (len := 10) (cl' := 1) (sl' := 10) dX5_init_15 (sV hva (o := 2) (by omega)) rfl (by decide) ac_int rfl (by decide) rfl rfl ?_
  refine V_putrF 5 5 dX5_init_17  lkX5_15 rfl ⟨rfl, rfl⟩ (sV hva (o := 0) (by omega)) ⟨by omega, by omega⟩ ?_
  refine V_aload_n dX5_init_20 rfl ?_
  refine V_bipush (v := 10) dX5_init_21 rfl ?_
  refine V_newa (t := 0) (len := 10) (cl' := 0) (sl' := 0) dX5_init_23 (sV hva (o := 3) (by omega)) rfl (by decide) ac_int rfl (by decide) rfl rfl ?_
  refine V_putrF 5 6 dX5_init_25  lkX5_18 rfl ⟨rfl, rfl⟩ (sV hva (o := 0) (by omega)) ⟨by omega, by omega⟩ ?_
  refine V_aload_n dX5_init_28 rfl ?_
  refine V_callV (ci := 5) (qX5_forget0 _ _ _ a hva (by omega)) dX5_init_29 mlX5_21 mtX5_forget ivX5_forget rfl (sV hva (o := 0) (by omega)) ⟨by omega, by omega⟩ (by decide) rfl rfl (by decide) (Nat.le_of_ble_eq_true rfl) rfl rfl ?_
  rintro _ _ _ _ ⟨rfl, rfl, rfl, rfl⟩
  refine V_ret dX5_init_32 rfl ?_
  refine ⟨rfl, rfl, ⟨fun i hi k => ⟨by (repeat first | rw [up2_n (by omega)] | rw [mi0_n (by omega)] | rw [mr0_n (by omega)] | rw [miR_n (by omega)] | rw [mrG_n (by omega)]), by (repeat first | rw [up2_n (by omega)] | rw [mi0_n (by omega)] | rw [mr0_n (by omega)] | rw [miR_n (by omega)] | rw [mrG_n (by omega)])⟩, fun i k b h1 h2 hb => ?_⟩, ?_, ?_, ?_⟩
  · obtain ⟨o, rfl⟩ : ∃ o, i = a + o := ⟨i - a, by omega⟩
    rw [RT_V hva (by omega)] at hb
    obtain ⟨rfl, hb2⟩ := RTV_v hb
    rcases hb2 with ⟨rfl, rfl⟩ | ⟨rfl, rfl⟩ | ⟨rfl, rfl⟩
    all_goals ((repeat first | rw [up2_n (by omega)] | rw [mi0_n (by omega)] | rw [mr0_n (by omega)] | rw [miR_n (by omega)] | rw [mrG_n (by omega)]); exact up2_h rfl rfl)
  · (repeat first | rw [up2_n (by omega)] | rw [mi0_n (by omega)] | rw [mr0_n (by omega)] | rw [miR_n (by omega)] | rw [mrG_n (by omega)]); exact up2_h rfl rfl
  · (repeat first | rw [up2_n (by omega)] | rw [mi0_n (by omega)] | rw [mr0_n (by omega)] | rw [miR_n (by omega)] | rw [mrG_n (by omega)]); exact up2_h rfl rfl
  · (repeat first | rw [up2_n (by omega)] | rw [mi0_n (by omega)] | rw [mr0_n (by omega)] | rw [miR_n (by omega)] | rw [mrG_n (by omega)]); exact up2_h rfl rfl
theorem isR.len8 {a len : Nat} (h : isR a len) : len ≤ 8 := by
  rcases h with ⟨w, h, rfl, rfl⟩ | ⟨w, h, rfl, rfl⟩ | ⟨w, h, rfl, rfl⟩ <;> omega
theorem RT_R {a len : Nat} (h : isR a len) {o k b : Nat} (ho : o < 4) (hb : RT (a + o) k = some b) : o = 0 ∧ ((k = 0 ∧ a + 1 = b) ∨ (k = 1 ∧ a + 2 = b) ∨ (k = 2 ∧ a + 3 = b)) := by
  rcases h with ⟨w, h, rfl, rfl⟩ | ⟨w, h, rfl, rfl⟩ | ⟨w, h, rfl, rfl⟩
  · rw [Nat.add_assoc, RT_W h (by omega)] at hb
    have := RTW_v hb
    omega
  · rw [Nat.add_assoc, RT_W h (by omega)] at hb
    have := RTW_v hb
    omega
  · rw [Nat.add_assoc, RT_W h (by omega)] at hb
    have := RTW_v hb
    omega
theorem RT_P {a : Nat} (h : isP a) {o k b : Nat} (ho : o < 2) (hb : RT (a + o) k = some b) : o = 0 ∧ k = 6 ∧ a + 1 = b := by
  obtain ⟨w, p, h, hp, rfl⟩ := h
  rw [Nat.add_assoc, Nat.add_assoc, RT_W h (by omega)] at hb
  have := RTW_v hb
  omega
set_option maxRecDepth 4000 in
theorem qX3_init (mi : MI) (mr : MR) (a len : Nat) (hr : isR a len) (x : Int32) (hx : x.toInt = (len : Int))  : Ct KX3_init 1 3 (len + len + len) [.ref a, .int x] (a + 1) mi mr (fun r n' mi' mr' => none = r ∧ a + 4 = n' ∧ born a (a + 4) mi mi' mr mr' ∧ mi' a 3 = mi a 3) := by
  refine Ct.of2 [some (.ref a), some (.int x)] (by decide +kernel) (Nat.le_of_ble_eq_true rfl) rfl ?_
  have hle := hr.le
  refine V_aload_n dX3_init_0 rfl ?_
  refine V_objInit dX3_init_1 mlX3_3 im_obj cm_obj (by decide) (Nat.le_of_ble_eq_true rfl) ?_
  refine V_aload_n dX3_init_4 rfl ?_
  refine V_iload_n dX3_init_5 rfl ?_
  refine V_newa (t := 0) (len := len) (cl' := 2) (sl' := len + len) dX3_init_6 (sRa hr (k := 0) (by omega)) rfl (by decide) ac_int hx (by have := hr.len8; show len * 4 ≤ _; omega) (by omega) (by omega) ?_
  refine V_putrF 3 0 dX3_init_8  lkX3_9 rfl ⟨rfl, rfl⟩ (sR hr) ⟨by omega, by omega⟩ ?_
  refine V_aload_n dX3_init_11 rfl ?_
  refine V_iload_n dX3_init_12 rfl ?_
  refine V_newa (t := 0) (len := len) (cl' := 1) (sl' := len) dX3_init_13 (sRa hr (k := 1) (by omega)) rfl (by decide) ac_int hx (by have := hr.len8; show len * 4 ≤ _; omega) (by omega) (by omega) ?_
  refine V_putrF 3 1 dX3_init_15  lkX3_15 rfl ⟨rfl, rfl⟩ (sR hr) ⟨by omega, by omega⟩ ?_
  refine V_aload_n dX3_init_18 rfl ?_
  refine V_iload_n dX3_init_19 rfl ?_
  refine V_newa (t := 0) (len := len) (cl' := 0) (sl' := 0) dX3_init_20 (sRa hr (k := 2) (by omega)) rfl (by decide) ac_int hx (by have := hr.len8; show len * 4 ≤ _; omega) (by omega) (by omega) ?_
  refine V_putrF 3 2 dX3_init_22  lkX3_18 rfl ⟨rfl, rfl⟩ (sR hr) ⟨by omega, by omega⟩ ?_
  refine V_ret dX3_init_25 rfl ?_
  refine ⟨rfl, rfl, ⟨fun i hi k => ⟨by (repeat first | rw [up2_n (by omega)] | rw [mi0_n (by omega)] | rw [mr0_n (by omega)] | rw [miR_n (by omega)] | rw [mrG_n (by omega)]), by (repeat first | rw [up2_n (by omega)] | rw [mi0_n (by omega)] | rw [mr0_n (by omega)] | rw [miR_n (by omega)] | rw [mrG_n (by omega)])⟩, fun i k b h1 h2 hb => ?_⟩, ?_⟩
  · obtain ⟨o, rfl⟩ : ∃ o, i = a + o := ⟨i - a, by omega⟩
    obtain ⟨rfl, hb2⟩ := RT_R hr (by omega) hb
    rcases hb2 with ⟨rfl, rfl⟩ | ⟨rfl, rfl⟩ | ⟨rfl, rfl⟩
    all_goals ((repeat first | rw [up2_n (by omega)] | rw [mi0_n (by omega)] | rw [mr0_n (by omega)] | rw [miR_n (by omega)] | rw [mrG_n (by omega)]); exact up2_h rfl rfl)
  · (repeat first | rw [up2_n (by omega)] | rw [mi0_n (by omega)] | rw [mr0_n (by omega)] | rw [miR_n (by omega)] | rw [mrG_n (by omega)])
set_option maxRecDepth 4000 in
theorem qX1_init (mi : MI) (mr : MR) (a : Nat) (hp : isP a) (x : Int32)  : Ct KX1_init 1 1 4 [.ref a, .int x] (a + 1) mi mr (fun r n' mi' mr' => none = r ∧ a + 2 = n' ∧ born a (a + 2) mi mi' mr mr' ∧ mi' a 0 = x) := by
  refine Ct.of2 [some (.ref a), some (.int x)] (by decide +kernel) (Nat.le_of_ble_eq_true rfl) rfl ?_
  have hle := hp.le
  refine V_aload_n dX1_init_0 rfl ?_
  refine V_objInit dX1_init_1 mlX1_3 im_obj cm_obj (by decide) (Nat.le_of_ble_eq_true rfl) ?_
  refine V_aload_n dX1_init_4 rfl ?_
  refine V_iconst (v := -1) dX1_init_5 rfl ?_
  refine V_puti 1 5 dX1_init_6 (Or.inl lkX1_9) rfl rfl rfl (sP hp) ⟨by omega, by omega⟩ ?_
  refine V_aload_n dX1_init_9 rfl ?_
  refine V_iconst (v := 4) dX1_init_10 rfl ?_
  refine V_newa (t := 0) (len := 4) (cl' := 0) (sl' := 0) dX1_init_11 (sPr hp) rfl (by decide) ac_int rfl (by decide) rfl rfl ?_
  refine V_putrF 1 6 dX1_init_13  lkX1_15 rfl ⟨rfl, rfl⟩ (sP hp) ⟨by omega, by omega⟩ ?_
  refine V_aload_n dX1_init_16 rfl ?_
  refine V_iload_n dX1_init_17 rfl ?_
  refine V_putiF 1 0 dX1_init_18  lkX1_19 rfl ⟨rfl, rfl⟩ rfl rfl (sP hp) ⟨by omega, by omega⟩ ?_
  refine V_ret dX1_init_21 rfl ?_
  refine ⟨rfl, rfl, ⟨fun i hi k => ⟨by (repeat first | rw [up2_n (by omega)] | rw [mi0_n (by omega)] | rw [mr0_n (by omega)] | rw [miR_n (by omega)] | rw [mrG_n (by omega)]), by (repeat first | rw [up2_n (by omega)] | rw [mi0_n (by omega)] | rw [mr0_n (by omega)] | rw [miR_n (by omega)] | rw [mrG_n (by omega)])⟩, fun i k b h1 h2 hb => ?_⟩, ?_⟩
  · obtain ⟨o, rfl⟩ : ∃ o, i = a + o := ⟨i - a, by omega⟩
    obtain ⟨rfl, rfl, rfl⟩ := RT_P hp (by omega) hb
    (repeat first | rw [up2_n (by omega)] | rw [mi0_n (by omega)] | rw [mr0_n (by omega)] | rw [miR_n (by omega)] | rw [mrG_n (by omega)])
    exact up2_h rfl rfl
  · exact up2_h rfl rfl
set_option maxRecDepth 4000 in
theorem qX0_init (mi : MI) (mr : MR)  : Ct KX0_init 1 1 20 [.ref 34] 35 mi mr (fun r n' mi' mr' => none = r ∧ 36 = n' ∧ born 34 36 mi mi' mr mr' ∧ mi' 34 1 = mi 34 1) := by
  refine Ct.of2 [some (.ref 34)] (by decide +kernel) (Nat.le_of_ble_eq_true rfl) rfl ?_
  refine V_aload_n dX0_init_0 rfl ?_
  refine V_objInit dX0_init_1 mlX0_3 im_obj cm_obj (by decide) (Nat.le_of_ble_eq_true rfl) ?_
  refine V_aload_n dX0_init_4 rfl ?_
  refine V_bipush (v := 20) dX0_init_5 rfl ?_
  refine V_newa (t := 0) (len := 20) (cl' := 0) (sl' := 0) dX0_init_7 rfl rfl (by decide) ac_int rfl (by decide) rfl rfl ?_
  refine V_putrF 0 0 dX0_init_9  lkX0_9 rfl ⟨rfl, rfl⟩ rfl ⟨by omega, by omega⟩ ?_
  refine V_ret dX0_init_12 rfl ?_
  refine ⟨rfl, rfl, ⟨fun i hi k => ⟨by (repeat first | rw [up2_n (by omega)] | rw [mi0_n (by omega)] | rw [mr0_n (by omega)] | rw [miR_n (by omega)] | rw [mrG_n (by omega)]), by (repeat first | rw [up2_n (by omega)] | rw [mi0_n (by omega)] | rw [mr0_n (by omega)] | rw [miR_n (by omega)] | rw [mrG_n (by omega)])⟩, fun i k b h1 h2 hb => ?_⟩, ?_⟩
  · have hb2 : RTB i k = some b := by
      unfold RT at hb
      rw [if_pos (by omega)] at hb
      exact hb
    have hv := RTB_v hb2
    obtain ⟨rfl, rfl, rfl⟩ : i = 34 ∧ k = 0 ∧ 35 = b := by omega
    exact up2_h rfl rfl
  · (repeat first | rw [up2_n (by omega)] | rw [mi0_n (by omega)] | rw [mr0_n (by omega)] | rw [miR_n (by omega)] | rw [mrG_n (by omega)])
