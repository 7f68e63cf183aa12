/-- a body's number written into the trace that lies at field f of A and in B -/
def lg1 (A f B : Nat) (mi : MI) (r : Nat) (b : Int32) : MI := up2 (up2 mi B r b) A f (nI (r + 1))
def lgT (A f B : Nat) (mi : MI) (r : Nat) : List Int32 → MI
  | [] => mi
  | b :: l => lgT A f B (lg1 A f B mi r b) (r + 1) l
theorem lg1_row {A f B : Nat} {mi : MI} {r : Nat} {b : Int32} {a : Nat} (h1 : a ≠ A) (h2 : a ≠ B) : lg1 A f B mi r b a = mi a := by
  unfold lg1
  rw [up2_row h1, up2_row h2]
theorem lg1_k {A f B : Nat} {mi : MI} {r : Nat} {b : Int32} {k : Nat} (h1 : k ≠ f) (h2 : A ≠ B) : lg1 A f B mi r b A k = mi A k := by
  unfold lg1
  simp only [up2]
  rw [if_neg (fun q => h1 q.2), if_neg (fun q => h2 q.1)]
theorem lg1_f {A f B : Nat} {mi : MI} {r : Nat} {b : Int32} : lg1 A f B mi r b A f = nI (r + 1) := up2_s
theorem lgT_row {A f B a : Nat} (h1 : a ≠ A) (h2 : a ≠ B) : ∀ {l : List Int32} {mi : MI} {r : Nat}, lgT A f B mi r l a = mi a
  | [], _, _ => rfl
  | _ :: l, _, _ => (lgT_row h1 h2 (l := l)).trans (lg1_row h1 h2)
theorem lgT_k {A f B k : Nat} (h1 : k ≠ f) (h2 : A ≠ B) : ∀ {l : List Int32} {mi : MI} {r : Nat}, lgT A f B mi r l A k = mi A k
  | [], _, _ => rfl
  | _ :: l, _, _ => (lgT_k h1 h2 (l := l)).trans (lg1_k h1 h2)
theorem lgT_f {A f B : Nat} : ∀ {l : List Int32} {mi : MI} {r : Nat}, mi A f = nI r → lgT A f B mi r l A f = nI (r + l.length)
  | [], _, _, h => h
  | _ :: l, _, r, _ => (lgT_f (l := l) (r := r + 1) lg1_f).trans (congrArg nI (by rw [List.length_cons]; omega))
theorem lgT_app {A f B : Nat} {l2 : List Int32} : ∀ {l1 : List Int32} {mi : MI} {r : Nat}, lgT A f B mi r (l1 ++ l2) = lgT A f B (lgT A f B mi r l1) (r + l1.length) l2
  | [], _, _ => rfl
  | b :: l, mi, r => by
    show lgT A f B (lg1 A f B mi r b) (r + 1) (l ++ l2) = lgT A f B (lgT A f B (lg1 A f B mi r b) (r + 1) l) (r + (l.length + 1)) l2
    rw [lgT_app, show r + 1 + l.length = r + (l.length + 1) by omega]
theorem lgT_lo {A f B j : Nat} (h : A ≠ B) : ∀ {l : List Int32} {mi : MI} {r : Nat}, j < r → lgT A f B mi r l B j = mi B j
  | [], _, _, _ => rfl
  | b :: l, mi, r, hj => by
    refine (lgT_lo h (l := l) (r := r + 1) (by omega)).trans ?_
    unfold lg1
    simp only [up2]
    rw [if_neg (fun q => h q.1.symm), if_neg (fun q => by omega)]
theorem lgT_at {A f B : Nat} (h : A ≠ B) : ∀ {l : List Int32} {mi : MI} {r j : Nat}, j < l.length → lgT A f B mi r l B (r + j) = l.getD j 0
  | [], _, _, j, hj => absurd hj (Nat.not_lt_zero j)
  | b :: l, mi, r, 0, _ => by
    refine (lgT_lo h (l := l) (r := r + 1) (by omega)).trans ?_
    unfold lg1
    rw [up2_a (fun q => h q.symm)]
    exact up2_s
  | b :: l, mi, r, j + 1, hj => by
    rw [show r + (j + 1) = r + 1 + j by omega]
    exact lgT_at h (l := l) (mi := lg1 A f B mi r b) (r := r + 1) (j := j) (Nat.lt_of_succ_lt_succ hj)
/-- who acts: the number, the kind, how firm -/
def whoC (mi : MI) (pa : Nat) (i : Int32) (kd : Nat) (v : Int32) : Prop := mi pa 0 = i ∧ mi pa 1 = nI kd ∧ mi pa 2 = v
def whoM (mi : MI) (i : Int32) (kd : Nat) (v : Int32) : Prop := mi 173 27 = i ∧ mi 173 26 = nI kd ∧ mi 173 28 = v
theorem whoC.lgT {mi : MI} {pa kd r : Nat} {i v : Int32} {l : List Int32} (h : whoC mi pa i kd v) (hp : 40 ≤ pa) : whoC (lgT 34 1 35 mi r l) pa i kd v := by
  unfold whoC
  rw [lgT_row (by omega) (by omega)]
  exact h
theorem whoC.lg1 {mi : MI} {pa kd r : Nat} {i v b : Int32} (h : whoC mi pa i kd v) (hp : 40 ≤ pa) : whoC (lg1 34 1 35 mi r b) pa i kd v := whoC.lgT (l := [b]) h hp
theorem whoM.lgT {mi : MI} {kd r : Nat} {i v : Int32} {l : List Int32} (h : whoM mi i kd v) : whoM (lgT 173 25 185 mi r l) i kd v := by
  unfold whoM
  rw [lgT_k (by decide) (by decide), lgT_k (by decide) (by decide), lgT_k (by decide) (by decide)]
  exact h
theorem whoM.lg1 {mi : MI} {kd r : Nat} {i v b : Int32} (h : whoM mi i kd v) : whoM (lg1 173 25 185 mi r b) i kd v := whoM.lgT (l := [b]) h
def dL : Nat → List Int32
  | 1 => [11, 1]
  | 4 => [11, 1]
  | 5 => [51, 1]
  | _ => [1]
def dV (i : Int32) : Nat → Int32 → Int32
  | 1, x => x * 3 + i
  | 4, x => x * 3 + i
  | 5, x => (x + i) ^^^ i
  | _, x => x + i
def a2L (k : Nat) : List Int32 := 2 :: dL k
def a2V (i v : Int32) (k : Nat) (x : Int32) : Int32 := dV i k x - v
def aL : Nat → List Int32
  | 2 => 21 :: a2L 2
  | 5 => 21 :: a2L 5
  | 6 => 61 :: a2L 6
  | k => a2L k
def aV (i v : Int32) : Nat → Int32 → Int32
  | 2, x => -a2V i v 2 x
  | 5, x => -a2V i v 5 x
  | 6, x => a2V i v 6 x + v
  | k, x => a2V i v k x
def t3L (k : Nat) : List Int32 := 3 :: aL k
def t3V (i v : Int32) (k : Nat) (x : Int32) : Int32 := aV i v k x * 2
def tL : Nat → List Int32
  | 3 => 31 :: t3L 3
  | 6 => 31 :: t3L 6
  | 4 => 41 :: (t3L 4 ++ dL 4)
  | k => t3L k
def tV (i v : Int32) : Nat → Int32 → Int32
  | 3, x => t3V i v 3 x ^^^ 7
  | 6, x => t3V i v 6 x ^^^ 7
  | 4, x => t3V i v 4 (x - 1) + dV i 4 2
  | k, x => t3V i v k x
def abN : Nat → Nat
  | 4 => 1
  | 5 => 2
  | 6 => 3
  | _ => 0
theorem ab_ok : ∀ t : Fin 7, ¬ t.1 = 0 → (gAB.getD t.1 0).toInt = (abN t.1 : Int) ∧ abN t.1 < 7 := by decide
def resF : Nat → Nat → Nat → Nat
  | 0, _, t => t
  | m + 1, a, t => if t = 0 ∨ ¬ gBO.getD (3 * t + a) 0 = 0 then t else resF m a (abN t)
def bodyN (a k : Nat) : Nat := (([[1, 11, 1, 1, 11, 51, 1], [2, 2, 21, 2, 2, 21, 61], [3, 3, 3, 31, 41, 3, 31]] : List (List Nat)).getD a []).getD k 0
theorem res_ok : ∀ (a : Fin 3) (k : Fin 7), resF 7 a.1 k.1 < 7 ∧ gBO.getD (3 * resF 7 a.1 k.1 + a.1) 0 = nI (bodyN a.1 k.1) := by decide
set_option maxRecDepth 4000 in
theorem qX0_begin (n : Nat) (mi : MI) (mr : MR) (hR : RF mr) (hn : 186 ≤ n) (b : Int32) (r : Nat) (hr : mi 34 1 = nI r) (hr9 : r < 20)  : Ct KX0_begin 1 0 0 [.ref 34, .int b] n mi mr (eqQ none n (lg1 34 1 35 mi r b) mr) := by
  refine Ct.of2 [some (.ref 34), some (.int b)] (by decide +kernel) (Nat.le_of_ble_eq_true rfl) rfl ?_
  have hr1 : (mi 34 1).toInt = (r : Int) := by rw [hr]; exact nI_toInt (by omega)
  refine V_aload_n dX0_begin_0 rfl ?_
  refine V_geti 0 1 dX0_begin_1 (Or.inl lkX0_41) rfl rfl ⟨by omega, by omega⟩ ?_
  refine V_aload_n dX0_begin_4 rfl ?_
  refine V_getr (b := 35) 0 0 dX0_begin_5 (Or.inl lkX0_9) rfl rfl ⟨by omega, by omega⟩ (hR _ _ _ rfl) ?_
  refine V_alen (len := 20) (v := 20) dX0_begin_8 rfl (by decide) ⟨by omega, by omega⟩ rfl ?_
  refine V_icmp_ge (tgt := 22) dX0_begin_9 (by decide) (fun c9 => absurd ((le_nat (x := 20) (a := 20) rfl hr1).mp c9) (by omega)) (fun c9 => ?_)
  refine V_aload_n dX0_begin_12 rfl ?_
  refine V_getr (b := 35) 0 0 dX0_begin_13 (Or.inl lkX0_9) rfl rfl ⟨by omega, by omega⟩ (hR _ _ _ rfl) ?_
  refine V_aload_n dX0_begin_16 rfl ?_
  refine V_geti 0 1 dX0_begin_17 (Or.inl lkX0_41) rfl rfl ⟨by omega, by omega⟩ ?_
  refine V_iload_n dX0_begin_20 rfl ?_
  refine V_iast (len := 20) r dX0_begin_21 rfl ⟨by omega, by omega⟩ hr1 (by omega) ?_
  refine V_aload_n dX0_begin_22 rfl ?_
  refine V_dup dX0_begin_23 rfl ?_
  refine V_geti 0 1 dX0_begin_24 (Or.inl lkX0_41) rfl rfl ⟨by omega, by omega⟩ ?_
  refine V_iconst (v := 1) dX0_begin_27 rfl ?_
  refine V_iadd dX0_begin_28 ?_
  refine V_puti 0 1 dX0_begin_29 (Or.inl lkX0_41) rfl rfl rfl rfl ⟨by omega, by omega⟩ ?_
  have e9 : up2 mi 35 r b 34 1 + 1 = nI (r + 1) := by
    rw [up2_row (by decide), hr, nI_succ]
  rw [e9]
  refine V_ret dX0_begin_32 rfl ?_
  exact ⟨rfl, rfl, rfl, rfl⟩
set_option maxRecDepth 4000 in
theorem perf_head {Q : QT} {d : Nat} (hd9 : 2 ≤ d) (n : Nat) (mi : MI) (mr : MR) (hR : RF mr) (hn : 186 ≤ n) (pa : Nat) (hpa : isP pa) (a k r dn : Nat) (ha9 : a < 3) (hk9 : k < 7) (xa xk x xd : Int32) (ha : xa.toInt = (a : Int)) (hk : xk.toInt = (k : Int)) (hdn : xd.toInt = (dn : Int)) (hdn9 : dn ≤ 11) (hr : mi 34 1 = nI r) (hr9 : r < 20) (hcont : ∀ z : Option Value, V KX0_perform d 0 0 Q 92 [some (.ref 34), some (.ref pa), some (.int xa), some (.int xk), some (.int x), some (.int xd), z, some (.int (nI (bodyN a k))), some (.int (xd + 1)), some (.int (mi pa 0)), some (.int (mi pa 2))] [] n (lg1 34 1 35 mi r (nI (bodyN a k))) mr) : V KX0_perform d 0 0 Q 0 [some (.ref 34), some (.ref pa), some (.int xa), some (.int xk), some (.int x), some (.int xd), none, none, none, none, none] [] n mi mr := by
  have hpl := hpa.le
  obtain ⟨hres9, hbody⟩ := res_ok ⟨a, ha9⟩ ⟨k, hk9⟩
  have hbody : gBO.getD (3 * resF 7 a k + a) 0 = nI (bodyN a k) := hbody
  have hres9 : resF 7 a k < 7 := hres9
  have hc47 : ∀ (y u : Int32) (t : Nat), y.toInt = (t : Int) → t = resF 7 a k → V KX0_perform d 0 0 Q 47 [some (.ref 34), some (.ref pa), some (.int xa), some (.int xk), some (.int x), some (.int xd), some (.int y), some (.int u), none, none, none] [] n mi mr := by
    intro y u t hy ht
    subst ht
    refine V_gets (v := .ref 2) dX0_perform_47 lsX0_18 (fun _ _ _ h => h.2.2.1.1) ?_
    refine V_iconst (v := 3) dX0_perform_50 rfl ?_
    refine V_iload dX0_perform_51 rfl ?_
    refine V_imul dX0_perform_53 ?_
    refine V_iload_n dX0_perform_54 rfl ?_
    refine V_iadd dX0_perform_55 ?_
    refine V_ialdO (len := 21) ((3 * (resF 7 a k)) + a) dX0_perform_56 (by decide) (fun _ _ _ h => h.2.2.1.2) (ix_add (ix_mul (by decide) hy (by omega)) ha (by omega)) (by omega) ?_
    rw [hbody]
    refine V_istore (L' := [_, _, _, _, _, _, _, _, _, _, _]) dX0_perform_57 (by decide) rfl rfl ?_
    refine V_aload_n dX0_perform_59 rfl ?_
    refine V_iload dX0_perform_60 rfl ?_
    refine V_callV (ci := 0) (qX0_begin n mi mr hR hn _ r hr hr9) dX0_perform_62 mlX0_21 mtX0_begin ivX0_begin rfl rfl ⟨by omega, by omega⟩ (by decide) rfl rfl (by omega) (Nat.le_of_ble_eq_true rfl) rfl rfl ?_
    rintro _ _ _ _ ⟨rfl, rfl, rfl, rfl⟩
    refine V_iload dX0_perform_65 rfl ?_
    refine V_iconst (v := 1) dX0_perform_67 rfl ?_
    refine V_iadd dX0_perform_68 ?_
    refine V_istore (L' := [_, _, _, _, _, _, _, _, _, _, _]) dX0_perform_69 (by decide) rfl rfl ?_
    refine V_aload_n dX0_perform_71 rfl ?_
    refine V_geti 1 0 dX0_perform_72 lnX0_25 rfl (sP hpa) ⟨by omega, by omega⟩ ?_
    rw [lg1_row (by omega) (by omega)]
    refine V_istore (L' := [_, _, _, _, _, _, _, _, _, _, _]) dX0_perform_75 (by decide) rfl rfl ?_
    refine V_aload_n dX0_perform_77 rfl ?_
    refine V_geti 1 2 dX0_perform_78 lnX0_31 rfl (sP hpa) ⟨by omega, by omega⟩ ?_
    rw [lg1_row (by omega) (by omega)]
    refine V_istore (L' := [_, _, _, _, _, _, _, _, _, _, _]) dX0_perform_81 (by decide) rfl rfl ?_
    refine V_iload dX0_perform_83 rfl ?_
    refine V_bipush (v := 12) dX0_perform_85 rfl ?_
    refine V_icmp_le (tgt := 92) dX0_perform_87 (by decide) (fun c87 => ?_) (fun c87 => absurd ((le_nat (ix_add hdn (b := 1) rfl (by omega)) (y := 12) (b := 12) rfl).mpr (by omega)) c87)
    exact hcont _
  have loop : ∀ (m i : Nat) (t : Nat) (y u : Int32), i + m = 7 → y.toInt = (t : Int) → u.toInt = (i : Int) → t < 7 → resF m a t = resF 7 a k → V KX0_perform d 0 0 (Q) 6 [some (.ref 34), some (.ref pa), some (.int xa), some (.int xk), some (.int x), some (.int xd), some (.int y), some (.int u), none, none, none] [] n mi mr := by
    intro m
    induction m with
    | zero =>
      intro i t y u him hy hu ht hres
      refine V_iload dX0_perform_6 rfl ?_
      refine V_getsN (v := .ref 1) dX0_perform_8 ltX0_15 (fun _ _ _ h => h.2.1.1) ?_
      refine V_alenS (len := 7) (v := 7) dX0_perform_11 (by decide) (fun _ _ _ h => h.2.1.2) rfl ?_
      refine V_icmp_ge (tgt := 47) dX0_perform_12 (by decide) (fun c12 => ?_) (fun c12 => absurd ((le_nat (x := 7) (a := 7) rfl hu).mpr (by omega)) c12)
      first
        | exact hc47 _ _ t hy hres
        | exact hc47 _ _ t hy ((if_pos (Or.inl (Nat.le_zero.mp ((le_nat hy (y := 0) (b := 0) rfl).mp c17))) : resF (m + 1) a t = t).symm.trans hres)
        | exact hc47 _ _ t hy ((if_pos (Or.inr c30) : resF (m + 1) a t = t).symm.trans hres)
    | succ m ih =>
      intro i t y u him hy hu ht hres
      refine V_iload dX0_perform_6 rfl ?_
      refine V_getsN (v := .ref 1) dX0_perform_8 ltX0_15 (fun _ _ _ h => h.2.1.1) ?_
      refine V_alenS (len := 7) (v := 7) dX0_perform_11 (by decide) (fun _ _ _ h => h.2.1.2) rfl ?_
      refine V_icmp_ge (tgt := 47) dX0_perform_12 (by decide) (fun c12 => absurd ((le_nat (x := 7) (a := 7) rfl hu).mp c12) (by omega)) (fun c12 => ?_)
      refine V_iload dX0_perform_15 rfl ?_
      refine V_if_le (tgt := 47) dX0_perform_17 (by decide) (fun c17 => ?_) (fun n17 => ?_)
      · first
          | exact hc47 _ _ t hy hres
          | exact hc47 _ _ t hy ((if_pos (Or.inl (Nat.le_zero.mp ((le_nat hy (y := 0) (b := 0) rfl).mp c17))) : resF (m + 1) a t = t).symm.trans hres)
          | exact hc47 _ _ t hy ((if_pos (Or.inr c30) : resF (m + 1) a t = t).symm.trans hres)
      · refine V_gets (v := .ref 2) dX0_perform_20 lsX0_18 (fun _ _ _ h => h.2.2.1.1) ?_
        refine V_iconst (v := 3) dX0_perform_23 rfl ?_
        refine V_iload dX0_perform_24 rfl ?_
        refine V_imul dX0_perform_26 ?_
        refine V_iload_n dX0_perform_27 rfl ?_
        refine V_iadd dX0_perform_28 ?_
        refine V_ialdO (len := 21) ((3 * t) + a) dX0_perform_29 (by decide) (fun _ _ _ h => h.2.2.1.2) (ix_add (ix_mul (by decide) hy (by omega)) ha (by omega)) (by omega) ?_
        refine V_if_ne (tgt := 47) dX0_perform_30 (by decide) (fun c30 => ?_) (fun n30 => ?_)
        · first
            | exact hc47 _ _ t hy hres
            | exact hc47 _ _ t hy ((if_pos (Or.inl (Nat.le_zero.mp ((le_nat hy (y := 0) (b := 0) rfl).mp c17))) : resF (m + 1) a t = t).symm.trans hres)
            | exact hc47 _ _ t hy ((if_pos (Or.inr c30) : resF (m + 1) a t = t).symm.trans hres)
        · refine V_getsN (v := .ref 1) dX0_perform_33 ltX0_15 (fun _ _ _ h => h.2.1.1) ?_
          refine V_iload dX0_perform_36 rfl ?_
          refine V_ialdO (len := 7) t dX0_perform_38 (by decide) (fun _ _ _ h => h.2.1.2) hy (by omega) ?_
          refine V_istore (L' := [_, _, _, _, _, _, _, _, _, _, _]) dX0_perform_39 (by decide) rfl rfl ?_
          refine V_iinc (v := _ + (1)) (L' := [_, _, _, _, _, _, _, _, _, _, _]) dX0_perform_41 (by decide) rfl rfl rfl rfl ?_
          refine V_goto (tgt := 6) dX0_perform_44 (by decide) ?_
          have ht0 : ¬ t = 0 := fun e => n17 ((le_nat hy (y := 0) (b := 0) rfl).mpr (by omega))
          obtain ⟨g1, g2⟩ := ab_ok ⟨t, ht⟩ ht0
          have g3 : resF (m + 1) a t = resF m a (abN t) := if_neg (fun q => q.elim ht0 (fun q2 => q2 n30))
          exact ih (i + 1) (abN t) _ _ (by omega) g1 (ix_add hu (by decide) (by omega)) g2 (g3.symm.trans hres)
  skip
  refine V_iload_n dX0_perform_0 rfl ?_
  refine V_istore (L' := [_, _, _, _, _, _, _, _, _, _, _]) dX0_perform_1 (by decide) rfl rfl ?_
  refine V_iconst (v := 0) dX0_perform_3 rfl ?_
  refine V_istore (L' := [_, _, _, _, _, _, _, _, _, _, _]) dX0_perform_4 (by decide) rfl rfl ?_
  exact loop 7 0 k _ _ (by omega) hk (by decide) hk9 rfl
set_option maxRecDepth 4000 in
theorem qperf1 (n : Nat) (mi : MI) (mr : MR) (hR : RF mr) (hn : 186 ≤ n) (pa : Nat) (hpa : isP pa) (kd k r dn : Nat) (hkd : kd < 7) (hk9 : k < 7) (xk x xd i v : Int32) (hk : xk.toInt = (k : Int)) (hdn : xd.toInt = (dn : Int)) (hdn9 : dn ≤ 11) (hr : mi 34 1 = nI r) (hr9 : r ≤ 18) (hw : whoC mi pa i kd v) (hb : bodyN 0 k = 1) : Ct KX0_perform 2 0 0 [.ref 34, .ref pa, .int 0, .int xk, .int x, .int xd] n mi mr (eqQ (some (.int (x + i))) n (lgT 34 1 35 mi r ([1])) mr) := by
  refine Ct.of2 [some (.ref 34), some (.ref pa), some (.int 0), some (.int xk), some (.int x), some (.int xd), none, none, none, none, none] (by decide +kernel) (Nat.le_of_ble_eq_true rfl) rfl ?_
  refine perf_head (by decide) n mi mr hR hn pa hpa 0 k r dn (by decide) hk9 _ _ _ _ rfl hk hdn (by omega) hr (by omega) (fun z => ?_)
  have hpl := hpa.le
  rw [hw.1, hw.2.2]
  match k, hk9, hk, hb with
  | 0, _, hk, hb =>
    refine V_iload dX0_perform_92 rfl ?_
    refine V_lookup (off := 82) (tgt := 176) dX0_perform_94 (by decide) (by decide) (by decide) ?_
    refine V_iload dX0_perform_176 rfl ?_
    refine V_iload dX0_perform_178 rfl ?_
    refine V_iadd dX0_perform_180 ?_
    refine V_iret dX0_perform_181 rfl rfl ?_
    exact ⟨rfl, rfl, rfl, rfl⟩
  | 1, _, hk, hb =>
    exact absurd hb (by decide)
  | 2, _, hk, hb =>
    refine V_iload dX0_perform_92 rfl ?_
    refine V_lookup (off := 82) (tgt := 176) dX0_perform_94 (by decide) (by decide) (by decide) ?_
    refine V_iload dX0_perform_176 rfl ?_
    refine V_iload dX0_perform_178 rfl ?_
    refine V_iadd dX0_perform_180 ?_
    refine V_iret dX0_perform_181 rfl rfl ?_
    exact ⟨rfl, rfl, rfl, rfl⟩
  | 3, _, hk, hb =>
    refine V_iload dX0_perform_92 rfl ?_
    refine V_lookup (off := 82) (tgt := 176) dX0_perform_94 (by decide) (by decide) (by decide) ?_
    refine V_iload dX0_perform_176 rfl ?_
    refine V_iload dX0_perform_178 rfl ?_
    refine V_iadd dX0_perform_180 ?_
    refine V_iret dX0_perform_181 rfl rfl ?_
    exact ⟨rfl, rfl, rfl, rfl⟩
  | 4, _, hk, hb =>
    exact absurd hb (by decide)
  | 5, _, hk, hb =>
    exact absurd hb (by decide)
  | 6, _, hk, hb =>
    refine V_iload dX0_perform_92 rfl ?_
    refine V_lookup (off := 82) (tgt := 176) dX0_perform_94 (by decide) (by decide) (by decide) ?_
    refine V_iload dX0_perform_176 rfl ?_
    refine V_iload dX0_perform_178 rfl ?_
    refine V_iadd dX0_perform_180 ?_
    refine V_iret dX0_perform_181 rfl rfl ?_
    exact ⟨rfl, rfl, rfl, rfl⟩
  | _ + 7, h, _, _ => exact absurd h (by omega)
set_option maxRecDepth 4000 in
theorem qperfD (n : Nat) (mi : MI) (mr : MR) (hR : RF mr) (hn : 186 ≤ n) (pa : Nat) (hpa : isP pa) (kd k r dn : Nat) (hkd : kd < 7) (hk9 : k < 7) (xk x xd i v : Int32) (hk : xk.toInt = (k : Int)) (hdn : xd.toInt = (dn : Int)) (hdn9 : dn ≤ 10) (hr : mi 34 1 = nI r) (hr9 : r ≤ 16) (hw : whoC mi pa i kd v) : Ct KX0_perform 3 0 0 [.ref 34, .ref pa, .int 0, .int xk, .int x, .int xd] n mi mr (eqQ (some (.int (dV i k x))) n (lgT 34 1 35 mi r (dL k)) mr) := by
  refine Ct.of2 [some (.ref 34), some (.ref pa), some (.int 0), some (.int xk), some (.int x), some (.int xd), none, none, none, none, none] (by decide +kernel) (Nat.le_of_ble_eq_true rfl) rfl ?_
  refine perf_head (by decide) n mi mr hR hn pa hpa 0 k r dn (by decide) hk9 _ _ _ _ rfl hk hdn (by omega) hr (by omega) (fun z => ?_)
  have hpl := hpa.le
  rw [hw.1, hw.2.2]
  match k, hk9, hk with
  | 0, _, hk =>
    refine V_iload dX0_perform_92 rfl ?_
    refine V_lookup (off := 82) (tgt := 176) dX0_perform_94 (by decide) (by decide) (by decide) ?_
    refine V_iload dX0_perform_176 rfl ?_
    refine V_iload dX0_perform_178 rfl ?_
    refine V_iadd dX0_perform_180 ?_
    refine V_iret dX0_perform_181 rfl rfl ?_
    exact ⟨rfl, rfl, rfl, rfl⟩
  | 1, _, hk =>
    refine V_iload dX0_perform_92 rfl ?_
    refine V_lookup (off := 123) (tgt := 217) dX0_perform_94 (by decide) (by decide) (by decide) ?_
    refine V_aload_n dX0_perform_217 rfl ?_
    refine V_aload_n dX0_perform_218 rfl ?_
    refine V_iconst (v := 0) dX0_perform_219 rfl ?_
    refine V_getsN (v := .ref 1) dX0_perform_220 ltX0_15 (fun _ _ _ h => h.2.1.1) ?_
    refine V_iconst (v := 1) dX0_perform_223 rfl ?_
    refine V_ialdO (len := 7) 1 dX0_perform_224 (by decide) (fun _ _ _ h => h.2.1.2) (by decide) (by omega) ?_
    refine V_iload dX0_perform_225 rfl ?_
    refine V_iconst (v := 3) dX0_perform_227 rfl ?_
    refine V_imul dX0_perform_228 ?_
    refine V_iload dX0_perform_229 rfl ?_
    refine V_callV (ci := 0) (qperf1 n _ mr hR hn pa hpa _ 0 (r + 1) (dn + 1) (by omega) (by omega) _ _ _ i v (by decide) (ix_add hdn (by decide) (by omega)) (by omega) lg1_f (by omega) (hw.lg1 hpl.1) (by decide)) dX0_perform_231 mlX0_37 mtX0_perform ivX0_perform rfl rfl ⟨by omega, by omega⟩ (by decide) rfl rfl (by decide) (Nat.le_of_ble_eq_true rfl) rfl rfl ?_
    rintro _ _ _ _ ⟨rfl, rfl, rfl, rfl⟩
    refine V_iret dX0_perform_234 rfl rfl ?_
    exact ⟨rfl, rfl, rfl, rfl⟩
  | 2, _, hk =>
    refine V_iload dX0_perform_92 rfl ?_
    refine V_lookup (off := 82) (tgt := 176) dX0_perform_94 (by decide) (by decide) (by decide) ?_
    refine V_iload dX0_perform_176 rfl ?_
    refine V_iload dX0_perform_178 rfl ?_
    refine V_iadd dX0_perform_180 ?_
    refine V_iret dX0_perform_181 rfl rfl ?_
    exact ⟨rfl, rfl, rfl, rfl⟩
  | 3, _, hk =>
    refine V_iload dX0_perform_92 rfl ?_
    refine V_lookup (off := 82) (tgt := 176) dX0_perform_94 (by decide) (by decide) (by decide) ?_
    refine V_iload dX0_perform_176 rfl ?_
    refine V_iload dX0_perform_178 rfl ?_
    refine V_iadd dX0_perform_180 ?_
    refine V_iret dX0_perform_181 rfl rfl ?_
    exact ⟨rfl, rfl, rfl, rfl⟩
  | 4, _, hk =>
    refine V_iload dX0_perform_92 rfl ?_
    refine V_lookup (off := 123) (tgt := 217) dX0_perform_94 (by decide) (by decide) (by decide) ?_
    refine V_aload_n dX0_perform_217 rfl ?_
    refine V_aload_n dX0_perform_218 rfl ?_
    refine V_iconst (v := 0) dX0_perform_219 rfl ?_
    refine V_getsN (v := .ref 1) dX0_perform_220 ltX0_15 (fun _ _ _ h => h.2.1.1) ?_
    refine V_iconst (v := 1) dX0_perform_223 rfl ?_
    refine V_ialdO (len := 7) 1 dX0_perform_224 (by decide) (fun _ _ _ h => h.2.1.2) (by decide) (by omega) ?_
    refine V_iload dX0_perform_225 rfl ?_
    refine V_iconst (v := 3) dX0_perform_227 rfl ?_
    refine V_imul dX0_perform_228 ?_
    refine V_iload dX0_perform_229 rfl ?_
    refine V_callV (ci := 0) (qperf1 n _ mr hR hn pa hpa _ 0 (r + 1) (dn + 1) (by omega) (by omega) _ _ _ i v (by decide) (ix_add hdn (by decide) (by omega)) (by omega) lg1_f (by omega) (hw.lg1 hpl.1) (by decide)) dX0_perform_231 mlX0_37 mtX0_perform ivX0_perform rfl rfl ⟨by omega, by omega⟩ (by decide) rfl rfl (by decide) (Nat.le_of_ble_eq_true rfl) rfl rfl ?_
    rintro _ _ _ _ ⟨rfl, rfl, rfl, rfl⟩
    refine V_iret dX0_perform_234 rfl rfl ?_
    exact ⟨rfl, rfl, rfl, rfl⟩
  | 5, _, hk =>
    refine V_iload dX0_perform_92 rfl ?_
    refine V_lookup (off := 209) (tgt := 303) dX0_perform_94 (by decide) (by decide) (by decide) ?_
    refine V_aload_n dX0_perform_303 rfl ?_
    refine V_aload_n dX0_perform_304 rfl ?_
    refine V_iconst (v := 0) dX0_perform_305 rfl ?_
    refine V_getsN (v := .ref 1) dX0_perform_306 ltX0_15 (fun _ _ _ h => h.2.1.1) ?_
    refine V_iconst (v := 5) dX0_perform_309 rfl ?_
    refine V_ialdO (len := 7) 5 dX0_perform_310 (by decide) (fun _ _ _ h => h.2.1.2) (by decide) (by omega) ?_
    refine V_iload dX0_perform_311 rfl ?_
    refine V_iload dX0_perform_313 rfl ?_
    refine V_callV (ci := 0) (qperf1 n _ mr hR hn pa hpa _ 2 (r + 1) (dn + 1) (by omega) (by omega) _ _ _ i v (by decide) (ix_add hdn (by decide) (by omega)) (by omega) lg1_f (by omega) (hw.lg1 hpl.1) (by decide)) dX0_perform_315 mlX0_37 mtX0_perform ivX0_perform rfl rfl ⟨by omega, by omega⟩ (by decide) rfl rfl (by decide) (Nat.le_of_ble_eq_true rfl) rfl rfl ?_
    rintro _ _ _ _ ⟨rfl, rfl, rfl, rfl⟩
    refine V_iload dX0_perform_318 rfl ?_
    refine V_ixor dX0_perform_320 ?_
    refine V_iret dX0_perform_321 rfl rfl ?_
    exact ⟨rfl, rfl, rfl, rfl⟩
  | 6, _, hk =>
    refine V_iload dX0_perform_92 rfl ?_
    refine V_lookup (off := 82) (tgt := 176) dX0_perform_94 (by decide) (by decide) (by decide) ?_
    refine V_iload dX0_perform_176 rfl ?_
    refine V_iload dX0_perform_178 rfl ?_
    refine V_iadd dX0_perform_180 ?_
    refine V_iret dX0_perform_181 rfl rfl ?_
    exact ⟨rfl, rfl, rfl, rfl⟩
  | _ + 7, h, _ => exact absurd h (by omega)
set_option maxRecDepth 4000 in
theorem qperf2 (n : Nat) (mi : MI) (mr : MR) (hR : RF mr) (hn : 186 ≤ n) (pa : Nat) (hpa : isP pa) (kd k r dn : Nat) (hkd : kd < 7) (hk9 : k < 7) (xk x xd i v : Int32) (hk : xk.toInt = (k : Int)) (hdn : xd.toInt = (dn : Int)) (hdn9 : dn ≤ 9) (hr : mi 34 1 = nI r) (hr9 : r ≤ 14) (hw : whoC mi pa i kd v) (hb : bodyN 1 k = 2) : Ct KX0_perform 4 0 0 [.ref 34, .ref pa, .int 1, .int xk, .int x, .int xd] n mi mr (eqQ (some (.int (a2V i v kd x))) n (lgT 34 1 35 mi r (a2L kd)) mr) := by
  refine Ct.of2 [some (.ref 34), some (.ref pa), some (.int 1), some (.int xk), some (.int x), some (.int xd), none, none, none, none, none] (by decide +kernel) (Nat.le_of_ble_eq_true rfl) rfl ?_
  refine perf_head (by decide) n mi mr hR hn pa hpa 1 k r dn (by decide) hk9 _ _ _ _ rfl hk hdn (by omega) hr (by omega) (fun z => ?_)
  have hpl := hpa.le
  rw [hw.1, hw.2.2]
  match k, hk9, hk, hb with
  | 0, _, hk, hb =>
    refine V_iload dX0_perform_92 rfl ?_
    refine V_lookup (off := 88) (tgt := 182) dX0_perform_94 (by decide) (by decide) (by decide) ?_
    refine V_aload_n dX0_perform_182 rfl ?_
    refine V_aload_n dX0_perform_183 rfl ?_
    refine V_iconst (v := 0) dX0_perform_184 rfl ?_
    refine V_aload_n dX0_perform_185 rfl ?_
    refine V_geti 1 1 dX0_perform_186 lnX0_34 rfl (sP hpa) ⟨by omega, by omega⟩ ?_
    rw [lg1_row (by omega) (by omega), hw.2.1]
    refine V_iload dX0_perform_189 rfl ?_
    refine V_iload dX0_perform_191 rfl ?_
    refine V_callV (ci := 0) (qperfD n _ mr hR hn pa hpa _ _ (r + 1) (dn + 1) (by omega) (by omega) _ _ _ i v (nI_toInt (by omega)) (ix_add hdn (by decide) (by omega)) (by omega) lg1_f (by omega) (hw.lg1 hpl.1)) dX0_perform_193 mlX0_37 mtX0_perform ivX0_perform rfl rfl ⟨by omega, by omega⟩ (by decide) rfl rfl (by decide) (Nat.le_of_ble_eq_true rfl) rfl rfl ?_
    rintro _ _ _ _ ⟨rfl, rfl, rfl, rfl⟩
    refine V_iload dX0_perform_196 rfl ?_
    refine V_isub dX0_perform_198 ?_
    refine V_iret dX0_perform_199 rfl rfl ?_
    exact ⟨rfl, rfl, rfl, rfl⟩
  | 1, _, hk, hb =>
    refine V_iload dX0_perform_92 rfl ?_
    refine V_lookup (off := 88) (tgt := 182) dX0_perform_94 (by decide) (by decide) (by decide) ?_
    refine V_aload_n dX0_perform_182 rfl ?_
    refine V_aload_n dX0_perform_183 rfl ?_
    refine V_iconst (v := 0) dX0_perform_184 rfl ?_
    refine V_aload_n dX0_perform_185 rfl ?_
    refine V_geti 1 1 dX0_perform_186 lnX0_34 rfl (sP hpa) ⟨by omega, by omega⟩ ?_
    rw [lg1_row (by omega) (by omega), hw.2.1]
    refine V_iload dX0_perform_189 rfl ?_
    refine V_iload dX0_perform_191 rfl ?_
    refine V_callV (ci := 0) (qperfD n _ mr hR hn pa hpa _ _ (r + 1) (dn + 1) (by omega) (by omega) _ _ _ i v (nI_toInt (by omega)) (ix_add hdn (by decide) (by omega)) (by omega) lg1_f (by omega) (hw.lg1 hpl.1)) dX0_perform_193 mlX0_37 mtX0_perform ivX0_perform rfl rfl ⟨by omega, by omega⟩ (by decide) rfl rfl (by decide) (Nat.le_of_ble_eq_true rfl) rfl rfl ?_
    rintro _ _ _ _ ⟨rfl, rfl, rfl, rfl⟩
    refine V_iload dX0_perform_196 rfl ?_
    refine V_isub dX0_perform_198 ?_
    refine V_iret dX0_perform_199 rfl rfl ?_
    exact ⟨rfl, rfl, rfl, rfl⟩
  | 2, _, hk, hb =>
    exact absurd hb (by decide)
  | 3, _, hk, hb =>
    refine V_iload dX0_perform_92 rfl ?_
    refine V_lookup (off := 88) (tgt := 182) dX0_perform_94 (by decide) (by decide) (by decide) ?_
    refine V_aload_n dX0_perform_182 rfl ?_
    refine V_aload_n dX0_perform_183 rfl ?_
    refine V_iconst (v := 0) dX0_perform_184 rfl ?_
    refine V_aload_n dX0_perform_185 rfl ?_
    refine V_geti 1 1 dX0_perform_186 lnX0_34 rfl (sP hpa) ⟨by omega, by omega⟩ ?_
    rw [lg1_row (by omega) (by omega), hw.2.1]
    refine V_iload dX0_perform_189 rfl ?_
    refine V_iload dX0_perform_191 rfl ?_
    refine V_callV (ci := 0) (qperfD n _ mr hR hn pa hpa _ _ (r + 1) (dn + 1) (by omega) (by omega) _ _ _ i v (nI_toInt (by omega)) (ix_add hdn (by decide) (by omega)) (by omega) lg1_f (by omega) (hw.lg1 hpl.1)) dX0_perform_193 mlX0_37 mtX0_perform ivX0_perform rfl rfl ⟨by omega, by omega⟩ (by decide) rfl rfl (by decide) (Nat.le_of_ble_eq_true rfl) rfl rfl ?_
    rintro _ _ _ _ ⟨rfl, rfl, rfl, rfl⟩
    refine V_iload dX0_perform_196 rfl ?_
    refine V_isub dX0_perform_198 ?_
    refine V_iret dX0_perform_199 rfl rfl ?_
    exact ⟨rfl, rfl, rfl, rfl⟩
  | 4, _, hk, hb =>
    refine V_iload dX0_perform_92 rfl ?_
    refine V_lookup (off := 88) (tgt := 182) dX0_perform_94 (by decide) (by decide) (by decide) ?_
    refine V_aload_n dX0_perform_182 rfl ?_
    refine V_aload_n dX0_perform_183 rfl ?_
    refine V_iconst (v := 0) dX0_perform_184 rfl ?_
    refine V_aload_n dX0_perform_185 rfl ?_
    refine V_geti 1 1 dX0_perform_186 lnX0_34 rfl (sP hpa) ⟨by omega, by omega⟩ ?_
    rw [lg1_row (by omega) (by omega), hw.2.1]
    refine V_iload dX0_perform_189 rfl ?_
    refine V_iload dX0_perform_191 rfl ?_
    refine V_callV (ci := 0) (qperfD n _ mr hR hn pa hpa _ _ (r + 1) (dn + 1) (by omega) (by omega) _ _ _ i v (nI_toInt (by omega)) (ix_add hdn (by decide) (by omega)) (by omega) lg1_f (by omega) (hw.lg1 hpl.1)) dX0_perform_193 mlX0_37 mtX0_perform ivX0_perform rfl rfl ⟨by omega, by omega⟩ (by decide) rfl rfl (by decide) (Nat.le_of_ble_eq_true rfl) rfl rfl ?_
    rintro _ _ _ _ ⟨rfl, rfl, rfl, rfl⟩
    refine V_iload dX0_perform_196 rfl ?_
    refine V_isub dX0_perform_198 ?_
    refine V_iret dX0_perform_199 rfl rfl ?_
    exact ⟨rfl, rfl, rfl, rfl⟩
  | 5, _, hk, hb =>
    exact absurd hb (by decide)
  | 6, _, hk, hb =>
    exact absurd hb (by decide)
  | _ + 7, h, _, _ => exact absurd h (by omega)
set_option maxRecDepth 4000 in
theorem qperfA (n : Nat) (mi : MI) (mr : MR) (hR : RF mr) (hn : 186 ≤ n) (pa : Nat) (hpa : isP pa) (kd k r dn : Nat) (hkd : kd < 7) (hk9 : k < 7) (xk x xd i v : Int32) (hk : xk.toInt = (k : Int)) (hdn : xd.toInt = (dn : Int)) (hdn9 : dn ≤ 8) (hr : mi 34 1 = nI r) (hr9 : r ≤ 12) (hw : whoC mi pa i kd v) (hb : kd = k) : Ct KX0_perform 5 0 0 [.ref 34, .ref pa, .int 1, .int xk, .int x, .int xd] n mi mr (eqQ (some (.int (aV i v kd x))) n (lgT 34 1 35 mi r (aL kd)) mr) := by
  refine Ct.of2 [some (.ref 34), some (.ref pa), some (.int 1), some (.int xk), some (.int x), some (.int xd), none, none, none, none, none] (by decide +kernel) (Nat.le_of_ble_eq_true rfl) rfl ?_
  refine perf_head (by decide) n mi mr hR hn pa hpa 1 k r dn (by decide) hk9 _ _ _ _ rfl hk hdn (by omega) hr (by omega) (fun z => ?_)
  have hpl := hpa.le
  rw [hw.1, hw.2.2]
  match k, hk9, hk, hb with
  | 0, _, hk, hb =>
    subst hb
    refine V_iload dX0_perform_92 rfl ?_
    refine V_lookup (off := 88) (tgt := 182) dX0_perform_94 (by decide) (by decide) (by decide) ?_
    refine V_aload_n dX0_perform_182 rfl ?_
    refine V_aload_n dX0_perform_183 rfl ?_
    refine V_iconst (v := 0) dX0_perform_184 rfl ?_
    refine V_aload_n dX0_perform_185 rfl ?_
    refine V_geti 1 1 dX0_perform_186 lnX0_34 rfl (sP hpa) ⟨by omega, by omega⟩ ?_
    rw [lg1_row (by omega) (by omega), hw.2.1]
    refine V_iload dX0_perform_189 rfl ?_
    refine V_iload dX0_perform_191 rfl ?_
    refine V_callV (ci := 0) (qperfD n _ mr hR hn pa hpa _ _ (r + 1) (dn + 1) (by omega) (by omega) _ _ _ i v (nI_toInt (by omega)) (ix_add hdn (by decide) (by omega)) (by omega) lg1_f (by omega) (hw.lg1 hpl.1)) dX0_perform_193 mlX0_37 mtX0_perform ivX0_perform rfl rfl ⟨by omega, by omega⟩ (by decide) rfl rfl (by decide) (Nat.le_of_ble_eq_true rfl) rfl rfl ?_
    rintro _ _ _ _ ⟨rfl, rfl, rfl, rfl⟩
    refine V_iload dX0_perform_196 rfl ?_
    refine V_isub dX0_perform_198 ?_
    refine V_iret dX0_perform_199 rfl rfl ?_
    exact ⟨rfl, rfl, rfl, rfl⟩
  | 1, _, hk, hb =>
    subst hb
    refine V_iload dX0_perform_92 rfl ?_
    refine V_lookup (off := 88) (tgt := 182) dX0_perform_94 (by decide) (by decide) (by decide) ?_
    refine V_aload_n dX0_perform_182 rfl ?_
    refine V_aload_n dX0_perform_183 rfl ?_
    refine V_iconst (v := 0) dX0_perform_184 rfl ?_
    refine V_aload_n dX0_perform_185 rfl ?_
    refine V_geti 1 1 dX0_perform_186 lnX0_34 rfl (sP hpa) ⟨by omega, by omega⟩ ?_
    rw [lg1_row (by omega) (by omega), hw.2.1]
    refine V_iload dX0_perform_189 rfl ?_
    refine V_iload dX0_perform_191 rfl ?_
    refine V_callV (ci := 0) (qperfD n _ mr hR hn pa hpa _ _ (r + 1) (dn + 1) (by omega) (by omega) _ _ _ i v (nI_toInt (by omega)) (ix_add hdn (by decide) (by omega)) (by omega) lg1_f (by omega) (hw.lg1 hpl.1)) dX0_perform_193 mlX0_37 mtX0_perform ivX0_perform rfl rfl ⟨by omega, by omega⟩ (by decide) rfl rfl (by decide) (Nat.le_of_ble_eq_true rfl) rfl rfl ?_
    rintro _ _ _ _ ⟨rfl, rfl, rfl, rfl⟩
    refine V_iload dX0_perform_196 rfl ?_
    refine V_isub dX0_perform_198 ?_
    refine V_iret dX0_perform_199 rfl rfl ?_
    exact ⟨rfl, rfl, rfl, rfl⟩
  | 2, _, hk, hb =>
    subst hb
    refine V_iload dX0_perform_92 rfl ?_
    refine V_lookup (off := 141) (tgt := 235) dX0_perform_94 (by decide) (by decide) (by decide) ?_
    refine V_aload_n dX0_perform_235 rfl ?_
    refine V_aload_n dX0_perform_236 rfl ?_
    refine V_iconst (v := 1) dX0_perform_237 rfl ?_
    refine V_getsN (v := .ref 1) dX0_perform_238 ltX0_15 (fun _ _ _ h => h.2.1.1) ?_
    refine V_iconst (v := 2) dX0_perform_241 rfl ?_
    refine V_ialdO (len := 7) 2 dX0_perform_242 (by decide) (fun _ _ _ h => h.2.1.2) (by decide) (by omega) ?_
    refine V_iload dX0_perform_243 rfl ?_
    refine V_iload dX0_perform_245 rfl ?_
    refine V_callV (ci := 0) (qperf2 n _ mr hR hn pa hpa _ 0 (r + 1) (dn + 1) (by omega) (by omega) _ _ _ i v (by decide) (ix_add hdn (by decide) (by omega)) (by omega) lg1_f (by omega) (hw.lg1 hpl.1) (by decide)) dX0_perform_247 mlX0_37 mtX0_perform ivX0_perform rfl rfl ⟨by omega, by omega⟩ (by decide) rfl rfl (by decide) (Nat.le_of_ble_eq_true rfl) rfl rfl ?_
    rintro _ _ _ _ ⟨rfl, rfl, rfl, rfl⟩
    refine V_ineg dX0_perform_250 ?_
    refine V_iret dX0_perform_251 rfl rfl ?_
    exact ⟨rfl, rfl, rfl, rfl⟩
  | 3, _, hk, hb =>
    subst hb
    refine V_iload dX0_perform_92 rfl ?_
    refine V_lookup (off := 88) (tgt := 182) dX0_perform_94 (by decide) (by decide) (by decide) ?_
    refine V_aload_n dX0_perform_182 rfl ?_
    refine V_aload_n dX0_perform_183 rfl ?_
    refine V_iconst (v := 0) dX0_perform_184 rfl ?_
    refine V_aload_n dX0_perform_185 rfl ?_
    refine V_geti 1 1 dX0_perform_186 lnX0_34 rfl (sP hpa) ⟨by omega, by omega⟩ ?_
    rw [lg1_row (by omega) (by omega), hw.2.1]
    refine V_iload dX0_perform_189 rfl ?_
    refine V_iload dX0_perform_191 rfl ?_
    refine V_callV (ci := 0) (qperfD n _ mr hR hn pa hpa _ _ (r + 1) (dn + 1) (by omega) (by omega) _ _ _ i v (nI_toInt (by omega)) (ix_add hdn (by decide) (by omega)) (by omega) lg1_f (by omega) (hw.lg1 hpl.1)) dX0_perform_193 mlX0_37 mtX0_perform ivX0_perform rfl rfl ⟨by omega, by omega⟩ (by decide) rfl rfl (by decide) (Nat.le_of_ble_eq_true rfl) rfl rfl ?_
    rintro _ _ _ _ ⟨rfl, rfl, rfl, rfl⟩
    refine V_iload dX0_perform_196 rfl ?_
    refine V_isub dX0_perform_198 ?_
    refine V_iret dX0_perform_199 rfl rfl ?_
    exact ⟨rfl, rfl, rfl, rfl⟩
  | 4, _, hk, hb =>
    subst hb
    refine V_iload dX0_perform_92 rfl ?_
    refine V_lookup (off := 88) (tgt := 182) dX0_perform_94 (by decide) (by decide) (by decide) ?_
    refine V_aload_n dX0_perform_182 rfl ?_
    refine V_aload_n dX0_perform_183 rfl ?_
    refine V_iconst (v := 0) dX0_perform_184 rfl ?_
    refine V_aload_n dX0_perform_185 rfl ?_
    refine V_geti 1 1 dX0_perform_186 lnX0_34 rfl (sP hpa) ⟨by omega, by omega⟩ ?_
    rw [lg1_row (by omega) (by omega), hw.2.1]
    refine V_iload dX0_perform_189 rfl ?_
    refine V_iload dX0_perform_191 rfl ?_
    refine V_callV (ci := 0) (qperfD n _ mr hR hn pa hpa _ _ (r + 1) (dn + 1) (by omega) (by omega) _ _ _ i v (nI_toInt (by omega)) (ix_add hdn (by decide) (by omega)) (by omega) lg1_f (by omega) (hw.lg1 hpl.1)) dX0_perform_193 mlX0_37 mtX0_perform ivX0_perform rfl rfl ⟨by omega, by omega⟩ (by decide) rfl rfl (by decide) (Nat.le_of_ble_eq_true rfl) rfl rfl ?_
    rintro _ _ _ _ ⟨rfl, rfl, rfl, rfl⟩
    refine V_iload dX0_perform_196 rfl ?_
    refine V_isub dX0_perform_198 ?_
    refine V_iret dX0_perform_199 rfl rfl ?_
    exact ⟨rfl, rfl, rfl, rfl⟩
  | 5, _, hk, hb =>
    subst hb
    refine V_iload dX0_perform_92 rfl ?_
    refine V_lookup (off := 141) (tgt := 235) dX0_perform_94 (by decide) (by decide) (by decide) ?_
    refine V_aload_n dX0_perform_235 rfl ?_
    refine V_aload_n dX0_perform_236 rfl ?_
    refine V_iconst (v := 1) dX0_perform_237 rfl ?_
    refine V_getsN (v := .ref 1) dX0_perform_238 ltX0_15 (fun _ _ _ h => h.2.1.1) ?_
    refine V_iconst (v := 2) dX0_perform_241 rfl ?_
    refine V_ialdO (len := 7) 2 dX0_perform_242 (by decide) (fun _ _ _ h => h.2.1.2) (by decide) (by omega) ?_
    refine V_iload dX0_perform_243 rfl ?_
    refine V_iload dX0_perform_245 rfl ?_
    refine V_callV (ci := 0) (qperf2 n _ mr hR hn pa hpa _ 0 (r + 1) (dn + 1) (by omega) (by omega) _ _ _ i v (by decide) (ix_add hdn (by decide) (by omega)) (by omega) lg1_f (by omega) (hw.lg1 hpl.1) (by decide)) dX0_perform_247 mlX0_37 mtX0_perform ivX0_perform rfl rfl ⟨by omega, by omega⟩ (by decide) rfl rfl (by decide) (Nat.le_of_ble_eq_true rfl) rfl rfl ?_
    rintro _ _ _ _ ⟨rfl, rfl, rfl, rfl⟩
    refine V_ineg dX0_perform_250 ?_
    refine V_iret dX0_perform_251 rfl rfl ?_
    exact ⟨rfl, rfl, rfl, rfl⟩
  | 6, _, hk, hb =>
    subst hb
    refine V_iload dX0_perform_92 rfl ?_
    refine V_lookup (off := 228) (tgt := 322) dX0_perform_94 (by decide) (by decide) (by decide) ?_
    refine V_aload_n dX0_perform_322 rfl ?_
    refine V_aload_n dX0_perform_323 rfl ?_
    refine V_iconst (v := 1) dX0_perform_324 rfl ?_
    refine V_getsN (v := .ref 1) dX0_perform_325 ltX0_15 (fun _ _ _ h => h.2.1.1) ?_
    refine V_bipush (v := 6) dX0_perform_328 rfl ?_
    refine V_ialdO (len := 7) 6 dX0_perform_330 (by decide) (fun _ _ _ h => h.2.1.2) (by decide) (by omega) ?_
    refine V_iload dX0_perform_331 rfl ?_
    refine V_iload dX0_perform_333 rfl ?_
    refine V_callV (ci := 0) (qperf2 n _ mr hR hn pa hpa _ 3 (r + 1) (dn + 1) (by omega) (by omega) _ _ _ i v (by decide) (ix_add hdn (by decide) (by omega)) (by omega) lg1_f (by omega) (hw.lg1 hpl.1) (by decide)) dX0_perform_335 mlX0_37 mtX0_perform ivX0_perform rfl rfl ⟨by omega, by omega⟩ (by decide) rfl rfl (by decide) (Nat.le_of_ble_eq_true rfl) rfl rfl ?_
    rintro _ _ _ _ ⟨rfl, rfl, rfl, rfl⟩
    refine V_iload dX0_perform_338 rfl ?_
    refine V_iadd dX0_perform_340 ?_
    refine V_iret dX0_perform_341 rfl rfl ?_
    exact ⟨rfl, rfl, rfl, rfl⟩
  | _ + 7, h, _, _ => exact absurd h (by omega)
set_option maxRecDepth 4000 in
theorem qperf3 (n : Nat) (mi : MI) (mr : MR) (hR : RF mr) (hn : 186 ≤ n) (pa : Nat) (hpa : isP pa) (kd k r dn : Nat) (hkd : kd < 7) (hk9 : k < 7) (xk x xd i v : Int32) (hk : xk.toInt = (k : Int)) (hdn : xd.toInt = (dn : Int)) (hdn9 : dn ≤ 7) (hr : mi 34 1 = nI r) (hr9 : r ≤ 10) (hw : whoC mi pa i kd v) (hb : bodyN 2 k = 3) : Ct KX0_perform 6 0 0 [.ref 34, .ref pa, .int 2, .int xk, .int x, .int xd] n mi mr (eqQ (some (.int (t3V i v kd x))) n (lgT 34 1 35 mi r (t3L kd)) mr) := by
  refine Ct.of2 [some (.ref 34), some (.ref pa), some (.int 2), some (.int xk), some (.int x), some (.int xd), none, none, none, none, none] (by decide +kernel) (Nat.le_of_ble_eq_true rfl) rfl ?_
  refine perf_head (by decide) n mi mr hR hn pa hpa 2 k r dn (by decide) hk9 _ _ _ _ rfl hk hdn (by omega) hr (by omega) (fun z => ?_)
  have hpl := hpa.le
  rw [hw.1, hw.2.2]
  match k, hk9, hk, hb with
  | 0, _, hk, hb =>
    refine V_iload dX0_perform_92 rfl ?_
    refine V_lookup (off := 106) (tgt := 200) dX0_perform_94 (by decide) (by decide) (by decide) ?_
    refine V_aload_n dX0_perform_200 rfl ?_
    refine V_aload_n dX0_perform_201 rfl ?_
    refine V_iconst (v := 1) dX0_perform_202 rfl ?_
    refine V_aload_n dX0_perform_203 rfl ?_
    refine V_geti 1 1 dX0_perform_204 lnX0_34 rfl (sP hpa) ⟨by omega, by omega⟩ ?_
    rw [lg1_row (by omega) (by omega), hw.2.1]
    refine V_iload dX0_perform_207 rfl ?_
    refine V_iload dX0_perform_209 rfl ?_
    refine V_callV (ci := 0) (qperfA n _ mr hR hn pa hpa _ _ (r + 1) (dn + 1) (by omega) (by omega) _ _ _ i v (nI_toInt (by omega)) (ix_add hdn (by decide) (by omega)) (by omega) lg1_f (by omega) (hw.lg1 hpl.1) rfl) dX0_perform_211 mlX0_37 mtX0_perform ivX0_perform rfl rfl ⟨by omega, by omega⟩ (by decide) rfl rfl (by decide) (Nat.le_of_ble_eq_true rfl) rfl rfl ?_
    rintro _ _ _ _ ⟨rfl, rfl, rfl, rfl⟩
    refine V_iconst (v := 2) dX0_perform_214 rfl ?_
    refine V_imul dX0_perform_215 ?_
    refine V_iret dX0_perform_216 rfl rfl ?_
    exact ⟨rfl, rfl, rfl, rfl⟩
  | 1, _, hk, hb =>
    refine V_iload dX0_perform_92 rfl ?_
    refine V_lookup (off := 106) (tgt := 200) dX0_perform_94 (by decide) (by decide) (by decide) ?_
    refine V_aload_n dX0_perform_200 rfl ?_
    refine V_aload_n dX0_perform_201 rfl ?_
    refine V_iconst (v := 1) dX0_perform_202 rfl ?_
    refine V_aload_n dX0_perform_203 rfl ?_
    refine V_geti 1 1 dX0_perform_204 lnX0_34 rfl (sP hpa) ⟨by omega, by omega⟩ ?_
    rw [lg1_row (by omega) (by omega), hw.2.1]
    refine V_iload dX0_perform_207 rfl ?_
    refine V_iload dX0_perform_209 rfl ?_
    refine V_callV (ci := 0) (qperfA n _ mr hR hn pa hpa _ _ (r + 1) (dn + 1) (by omega) (by omega) _ _ _ i v (nI_toInt (by omega)) (ix_add hdn (by decide) (by omega)) (by omega) lg1_f (by omega) (hw.lg1 hpl.1) rfl) dX0_perform_211 mlX0_37 mtX0_perform ivX0_perform rfl rfl ⟨by omega, by omega⟩ (by decide) rfl rfl (by decide) (Nat.le_of_ble_eq_true rfl) rfl rfl ?_
    rintro _ _ _ _ ⟨rfl, rfl, rfl, rfl⟩
    refine V_iconst (v := 2) dX0_perform_214 rfl ?_
    refine V_imul dX0_perform_215 ?_
    refine V_iret dX0_perform_216 rfl rfl ?_
    exact ⟨rfl, rfl, rfl, rfl⟩
  | 2, _, hk, hb =>
    refine V_iload dX0_perform_92 rfl ?_
    refine V_lookup (off := 106) (tgt := 200) dX0_perform_94 (by decide) (by decide) (by decide) ?_
    refine V_aload_n dX0_perform_200 rfl ?_
    refine V_aload_n dX0_perform_201 rfl ?_
    refine V_iconst (v := 1) dX0_perform_202 rfl ?_
    refine V_aload_n dX0_perform_203 rfl ?_
    refine V_geti 1 1 dX0_perform_204 lnX0_34 rfl (sP hpa) ⟨by omega, by omega⟩ ?_
    rw [lg1_row (by omega) (by omega), hw.2.1]
    refine V_iload dX0_perform_207 rfl ?_
    refine V_iload dX0_perform_209 rfl ?_
    refine V_callV (ci := 0) (qperfA n _ mr hR hn pa hpa _ _ (r + 1) (dn + 1) (by omega) (by omega) _ _ _ i v (nI_toInt (by omega)) (ix_add hdn (by decide) (by omega)) (by omega) lg1_f (by omega) (hw.lg1 hpl.1) rfl) dX0_perform_211 mlX0_37 mtX0_perform ivX0_perform rfl rfl ⟨by omega, by omega⟩ (by decide) rfl rfl (by decide) (Nat.le_of_ble_eq_true rfl) rfl rfl ?_
    rintro _ _ _ _ ⟨rfl, rfl, rfl, rfl⟩
    refine V_iconst (v := 2) dX0_perform_214 rfl ?_
    refine V_imul dX0_perform_215 ?_
    refine V_iret dX0_perform_216 rfl rfl ?_
    exact ⟨rfl, rfl, rfl, rfl⟩
  | 3, _, hk, hb =>
    exact absurd hb (by decide)
  | 4, _, hk, hb =>
    exact absurd hb (by decide)
  | 5, _, hk, hb =>
    refine V_iload dX0_perform_92 rfl ?_
    refine V_lookup (off := 106) (tgt := 200) dX0_perform_94 (by decide) (by decide) (by decide) ?_
    refine V_aload_n dX0_perform_200 rfl ?_
    refine V_aload_n dX0_perform_201 rfl ?_
    refine V_iconst (v := 1) dX0_perform_202 rfl ?_
    refine V_aload_n dX0_perform_203 rfl ?_
    refine V_geti 1 1 dX0_perform_204 lnX0_34 rfl (sP hpa) ⟨by omega, by omega⟩ ?_
    rw [lg1_row (by omega) (by omega), hw.2.1]
    refine V_iload dX0_perform_207 rfl ?_
    refine V_iload dX0_perform_209 rfl ?_
    refine V_callV (ci := 0) (qperfA n _ mr hR hn pa hpa _ _ (r + 1) (dn + 1) (by omega) (by omega) _ _ _ i v (nI_toInt (by omega)) (ix_add hdn (by decide) (by omega)) (by omega) lg1_f (by omega) (hw.lg1 hpl.1) rfl) dX0_perform_211 mlX0_37 mtX0_perform ivX0_perform rfl rfl ⟨by omega, by omega⟩ (by decide) rfl rfl (by decide) (Nat.le_of_ble_eq_true rfl) rfl rfl ?_
    rintro _ _ _ _ ⟨rfl, rfl, rfl, rfl⟩
    refine V_iconst (v := 2) dX0_perform_214 rfl ?_
    refine V_imul dX0_perform_215 ?_
    refine V_iret dX0_perform_216 rfl rfl ?_
    exact ⟨rfl, rfl, rfl, rfl⟩
  | 6, _, hk, hb =>
    exact absurd hb (by decide)
  | _ + 7, h, _, _ => exact absurd h (by omega)
set_option maxRecDepth 4000 in
theorem qperfT (n : Nat) (mi : MI) (mr : MR) (hR : RF mr) (hn : 186 ≤ n) (pa : Nat) (hpa : isP pa) (kd k r dn : Nat) (hkd : kd < 7) (hk9 : k < 7) (xk x xd i v : Int32) (hk : xk.toInt = (k : Int)) (hdn : xd.toInt = (dn : Int)) (hdn9 : dn ≤ 6) (hr : mi 34 1 = nI r) (hr9 : r ≤ 8) (hw : whoC mi pa i kd v) (hb : kd = k) : Ct KX0_perform 7 0 0 [.ref 34, .ref pa, .int 2, .int xk, .int x, .int xd] n mi mr (eqQ (some (.int (tV i v kd x))) n (lgT 34 1 35 mi r (tL kd)) mr) := by
  refine Ct.of2 [some (.ref 34), some (.ref pa), some (.int 2), some (.int xk), some (.int x), some (.int xd), none, none, none, none, none] (by decide +kernel) (Nat.le_of_ble_eq_true rfl) rfl ?_
  refine perf_head (by decide) n mi mr hR hn pa hpa 2 k r dn (by decide) hk9 _ _ _ _ rfl hk hdn (by omega) hr (by omega) (fun z => ?_)
  have hpl := hpa.le
  rw [hw.1, hw.2.2]
  match k, hk9, hk, hb with
  | 0, _, hk, hb =>
    subst hb
    refine V_iload dX0_perform_92 rfl ?_
    refine V_lookup (off := 106) (tgt := 200) dX0_perform_94 (by decide) (by decide) (by decide) ?_
    refine V_aload_n dX0_perform_200 rfl ?_
    refine V_aload_n dX0_perform_201 rfl ?_
    refine V_iconst (v := 1) dX0_perform_202 rfl ?_
    refine V_aload_n dX0_perform_203 rfl ?_
    refine V_geti 1 1 dX0_perform_204 lnX0_34 rfl (sP hpa) ⟨by omega, by omega⟩ ?_
    rw [lg1_row (by omega) (by omega), hw.2.1]
    refine V_iload dX0_perform_207 rfl ?_
    refine V_iload dX0_perform_209 rfl ?_
    refine V_callV (ci := 0) (qperfA n _ mr hR hn pa hpa _ _ (r + 1) (dn + 1) (by omega) (by omega) _ _ _ i v (nI_toInt (by omega)) (ix_add hdn (by decide) (by omega)) (by omega) lg1_f (by omega) (hw.lg1 hpl.1) rfl) dX0_perform_211 mlX0_37 mtX0_perform ivX0_perform rfl rfl ⟨by omega, by omega⟩ (by decide) rfl rfl (by decide) (Nat.le_of_ble_eq_true rfl) rfl rfl ?_
    rintro _ _ _ _ ⟨rfl, rfl, rfl, rfl⟩
    refine V_iconst (v := 2) dX0_perform_214 rfl ?_
    refine V_imul dX0_perform_215 ?_
    refine V_iret dX0_perform_216 rfl rfl ?_
    exact ⟨rfl, rfl, rfl, rfl⟩
  | 1, _, hk, hb =>
    subst hb
    refine V_iload dX0_perform_92 rfl ?_
    refine V_lookup (off := 106) (tgt := 200) dX0_perform_94 (by decide) (by decide) (by decide) ?_
    refine V_aload_n dX0_perform_200 rfl ?_
    refine V_aload_n dX0_perform_201 rfl ?_
    refine V_iconst (v := 1) dX0_perform_202 rfl ?_
    refine V_aload_n dX0_perform_203 rfl ?_
    refine V_geti 1 1 dX0_perform_204 lnX0_34 rfl (sP hpa) ⟨by omega, by omega⟩ ?_
    rw [lg1_row (by omega) (by omega), hw.2.1]
    refine V_iload dX0_perform_207 rfl ?_
    refine V_iload dX0_perform_209 rfl ?_
    refine V_callV (ci := 0) (qperfA n _ mr hR hn pa hpa _ _ (r + 1) (dn + 1) (by omega) (by omega) _ _ _ i v (nI_toInt (by omega)) (ix_add hdn (by decide) (by omega)) (by omega) lg1_f (by omega) (hw.lg1 hpl.1) rfl) dX0_perform_211 mlX0_37 mtX0_perform ivX0_perform rfl rfl ⟨by omega, by omega⟩ (by decide) rfl rfl (by decide) (Nat.le_of_ble_eq_true rfl) rfl rfl ?_
    rintro _ _ _ _ ⟨rfl, rfl, rfl, rfl⟩
    refine V_iconst (v := 2) dX0_perform_214 rfl ?_
    refine V_imul dX0_perform_215 ?_
    refine V_iret dX0_perform_216 rfl rfl ?_
    exact ⟨rfl, rfl, rfl, rfl⟩
  | 2, _, hk, hb =>
    subst hb
    refine V_iload dX0_perform_92 rfl ?_
    refine V_lookup (off := 106) (tgt := 200) dX0_perform_94 (by decide) (by decide) (by decide) ?_
    refine V_aload_n dX0_perform_200 rfl ?_
    refine V_aload_n dX0_perform_201 rfl ?_
    refine V_iconst (v := 1) dX0_perform_202 rfl ?_
    refine V_aload_n dX0_perform_203 rfl ?_
    refine V_geti 1 1 dX0_perform_204 lnX0_34 rfl (sP hpa) ⟨by omega, by omega⟩ ?_
    rw [lg1_row (by omega) (by omega), hw.2.1]
    refine V_iload dX0_perform_207 rfl ?_
    refine V_iload dX0_perform_209 rfl ?_
    refine V_callV (ci := 0) (qperfA n _ mr hR hn pa hpa _ _ (r + 1) (dn + 1) (by omega) (by omega) _ _ _ i v (nI_toInt (by omega)) (ix_add hdn (by decide) (by omega)) (by omega) lg1_f (by omega) (hw.lg1 hpl.1) rfl) dX0_perform_211 mlX0_37 mtX0_perform ivX0_perform rfl rfl ⟨by omega, by omega⟩ (by decide) rfl rfl (by decide) (Nat.le_of_ble_eq_true rfl) rfl rfl ?_
    rintro _ _ _ _ ⟨rfl, rfl, rfl, rfl⟩
    refine V_iconst (v := 2) dX0_perform_214 rfl ?_
    refine V_imul dX0_perform_215 ?_
    refine V_iret dX0_perform_216 rfl rfl ?_
    exact ⟨rfl, rfl, rfl, rfl⟩
  | 3, _, hk, hb =>
    subst hb
    refine V_iload dX0_perform_92 rfl ?_
    refine V_lookup (off := 158) (tgt := 252) dX0_perform_94 (by decide) (by decide) (by decide) ?_
    refine V_aload_n dX0_perform_252 rfl ?_
    refine V_aload_n dX0_perform_253 rfl ?_
    refine V_iconst (v := 2) dX0_perform_254 rfl ?_
    refine V_getsN (v := .ref 1) dX0_perform_255 ltX0_15 (fun _ _ _ h => h.2.1.1) ?_
    refine V_iconst (v := 3) dX0_perform_258 rfl ?_
    refine V_ialdO (len := 7) 3 dX0_perform_259 (by decide) (fun _ _ _ h => h.2.1.2) (by decide) (by omega) ?_
    refine V_iload dX0_perform_260 rfl ?_
    refine V_iload dX0_perform_262 rfl ?_
    refine V_callV (ci := 0) (qperf3 n _ mr hR hn pa hpa _ 0 (r + 1) (dn + 1) (by omega) (by omega) _ _ _ i v (by decide) (ix_add hdn (by decide) (by omega)) (by omega) lg1_f (by omega) (hw.lg1 hpl.1) (by decide)) dX0_perform_264 mlX0_37 mtX0_perform ivX0_perform rfl rfl ⟨by omega, by omega⟩ (by decide) rfl rfl (by decide) (Nat.le_of_ble_eq_true rfl) rfl rfl ?_
    rintro _ _ _ _ ⟨rfl, rfl, rfl, rfl⟩
    refine V_bipush (v := 7) dX0_perform_267 rfl ?_
    refine V_ixor dX0_perform_269 ?_
    refine V_iret dX0_perform_270 rfl rfl ?_
    exact ⟨rfl, rfl, rfl, rfl⟩
  | 4, _, hk, hb =>
    subst hb
    refine V_iload dX0_perform_92 rfl ?_
    refine V_lookup (off := 177) (tgt := 271) dX0_perform_94 (by decide) (by decide) (by decide) ?_
    refine V_aload_n dX0_perform_271 rfl ?_
    refine V_aload_n dX0_perform_272 rfl ?_
    refine V_iconst (v := 2) dX0_perform_273 rfl ?_
    refine V_getsN (v := .ref 1) dX0_perform_274 ltX0_15 (fun _ _ _ h => h.2.1.1) ?_
    refine V_iconst (v := 4) dX0_perform_277 rfl ?_
    refine V_ialdO (len := 7) 4 dX0_perform_278 (by decide) (fun _ _ _ h => h.2.1.2) (by decide) (by omega) ?_
    refine V_iload dX0_perform_279 rfl ?_
    refine V_iconst (v := 1) dX0_perform_281 rfl ?_
    refine V_isub dX0_perform_282 ?_
    refine V_iload dX0_perform_283 rfl ?_
    refine V_callV (ci := 0) (qperf3 n _ mr hR hn pa hpa _ 1 (r + 1) (dn + 1) (by omega) (by omega) _ _ _ i v (by decide) (ix_add hdn (by decide) (by omega)) (by omega) lg1_f (by omega) (hw.lg1 hpl.1) (by decide)) dX0_perform_285 mlX0_37 mtX0_perform ivX0_perform rfl rfl ⟨by omega, by omega⟩ (by decide) rfl rfl (by decide) (Nat.le_of_ble_eq_true rfl) rfl rfl ?_
    rintro _ _ _ _ ⟨rfl, rfl, rfl, rfl⟩
    refine V_aload_n dX0_perform_288 rfl ?_
    refine V_aload_n dX0_perform_289 rfl ?_
    refine V_iconst (v := 0) dX0_perform_290 rfl ?_
    refine V_aload_n dX0_perform_291 rfl ?_
    refine V_geti 1 1 dX0_perform_292 lnX0_34 rfl (sP hpa) ⟨by omega, by omega⟩ ?_
    rw [lgT_row (by omega) (by omega), lg1_row (by omega) (by omega), hw.2.1]
    refine V_iconst (v := 2) dX0_perform_295 rfl ?_
    refine V_iload dX0_perform_296 rfl ?_
    refine V_callV (ci := 0) (qperfD n _ mr hR hn pa hpa _ _ (r + 1 + (t3L 4).length) (dn + 1) (by omega) (by omega) _ _ _ i v (nI_toInt (by omega)) (ix_add hdn (by decide) (by omega)) (by omega) (lgT_f lg1_f) (by show r + 1 + 4 ≤ 16; omega) ((hw.lg1 hpl.1).lgT hpl.1)) dX0_perform_298 mlX0_37 mtX0_perform ivX0_perform rfl rfl ⟨by omega, by omega⟩ (by decide) rfl rfl (by decide) (Nat.le_of_ble_eq_true rfl) rfl rfl ?_
    rintro _ _ _ _ ⟨rfl, rfl, rfl, rfl⟩
    refine V_iadd dX0_perform_301 ?_
    refine V_iret dX0_perform_302 rfl rfl ?_
    exact ⟨rfl, rfl, (lgT_app (l1 := t3L 4) (l2 := dL 4)).trans rfl, rfl⟩
  | 5, _, hk, hb =>
    subst hb
    refine V_iload dX0_perform_92 rfl ?_
    refine V_lookup (off := 106) (tgt := 200) dX0_perform_94 (by decide) (by decide) (by decide) ?_
    refine V_aload_n dX0_perform_200 rfl ?_
    refine V_aload_n dX0_perform_201 rfl ?_
    refine V_iconst (v := 1) dX0_perform_202 rfl ?_
    refine V_aload_n dX0_perform_203 rfl ?_
    refine V_geti 1 1 dX0_perform_204 lnX0_34 rfl (sP hpa) ⟨by omega, by omega⟩ ?_
    rw [lg1_row (by omega) (by omega), hw.2.1]
    refine V_iload dX0_perform_207 rfl ?_
    refine V_iload dX0_perform_209 rfl ?_
    refine V_callV (ci := 0) (qperfA n _ mr hR hn pa hpa _ _ (r + 1) (dn + 1) (by omega) (by omega) _ _ _ i v (nI_toInt (by omega)) (ix_add hdn (by decide) (by omega)) (by omega) lg1_f (by omega) (hw.lg1 hpl.1) rfl) dX0_perform_211 mlX0_37 mtX0_perform ivX0_perform rfl rfl ⟨by omega, by omega⟩ (by decide) rfl rfl (by decide) (Nat.le_of_ble_eq_true rfl) rfl rfl ?_
    rintro _ _ _ _ ⟨rfl, rfl, rfl, rfl⟩
    refine V_iconst (v := 2) dX0_perform_214 rfl ?_
    refine V_imul dX0_perform_215 ?_
    refine V_iret dX0_perform_216 rfl rfl ?_
    exact ⟨rfl, rfl, rfl, rfl⟩
  | 6, _, hk, hb =>
    subst hb
    refine V_iload dX0_perform_92 rfl ?_
    refine V_lookup (off := 158) (tgt := 252) dX0_perform_94 (by decide) (by decide) (by decide) ?_
    refine V_aload_n dX0_perform_252 rfl ?_
    refine V_aload_n dX0_perform_253 rfl ?_
    refine V_iconst (v := 2) dX0_perform_254 rfl ?_
    refine V_getsN (v := .ref 1) dX0_perform_255 ltX0_15 (fun _ _ _ h => h.2.1.1) ?_
    refine V_iconst (v := 3) dX0_perform_258 rfl ?_
    refine V_ialdO (len := 7) 3 dX0_perform_259 (by decide) (fun _ _ _ h => h.2.1.2) (by decide) (by omega) ?_
    refine V_iload dX0_perform_260 rfl ?_
    refine V_iload dX0_perform_262 rfl ?_
    refine V_callV (ci := 0) (qperf3 n _ mr hR hn pa hpa _ 0 (r + 1) (dn + 1) (by omega) (by omega) _ _ _ i v (by decide) (ix_add hdn (by decide) (by omega)) (by omega) lg1_f (by omega) (hw.lg1 hpl.1) (by decide)) dX0_perform_264 mlX0_37 mtX0_perform ivX0_perform rfl rfl ⟨by omega, by omega⟩ (by decide) rfl rfl (by decide) (Nat.le_of_ble_eq_true rfl) rfl rfl ?_
    rintro _ _ _ _ ⟨rfl, rfl, rfl, rfl⟩
    refine V_bipush (v := 7) dX0_perform_267 rfl ?_
    refine V_ixor dX0_perform_269 ?_
    refine V_iret dX0_perform_270 rfl rfl ?_
    exact ⟨rfl, rfl, rfl, rfl⟩
  | _ + 7, h, _, _ => exact absurd h (by omega)
set_option maxRecDepth 4000 in
theorem qperfD7 (n : Nat) (mi : MI) (mr : MR) (hR : RF mr) (hn : 186 ≤ n) (pa : Nat) (hpa : isP pa) (kd k r dn : Nat) (hkd : kd < 7) (hk9 : k < 7) (xk x xd i v : Int32) (hk : xk.toInt = (k : Int)) (hdn : xd.toInt = (dn : Int)) (hdn9 : dn ≤ 10) (hr : mi 34 1 = nI r) (hr9 : r ≤ 16) (hw : whoC mi pa i kd v) : Ct KX0_perform 7 0 0 [.ref 34, .ref pa, .int 0, .int xk, .int x, .int xd] n mi mr (eqQ (some (.int (dV i k x))) n (lgT 34 1 35 mi r (dL k)) mr) := by
  refine Ct.of2 [some (.ref 34), some (.ref pa), some (.int 0), some (.int xk), some (.int x), some (.int xd), none, none, none, none, none] (by decide +kernel) (Nat.le_of_ble_eq_true rfl) rfl ?_
  refine perf_head (by decide) n mi mr hR hn pa hpa 0 k r dn (by decide) hk9 _ _ _ _ rfl hk hdn (by omega) hr (by omega) (fun z => ?_)
  have hpl := hpa.le
  rw [hw.1, hw.2.2]
  match k, hk9, hk with
  | 0, _, hk =>
    refine V_iload dX0_perform_92 rfl ?_
    refine V_lookup (off := 82) (tgt := 176) dX0_perform_94 (by decide) (by decide) (by decide) ?_
    refine V_iload dX0_perform_176 rfl ?_
    refine V_iload dX0_perform_178 rfl ?_
    refine V_iadd dX0_perform_180 ?_
    refine V_iret dX0_perform_181 rfl rfl ?_
    exact ⟨rfl, rfl, rfl, rfl⟩
  | 1, _, hk =>
    refine V_iload dX0_perform_92 rfl ?_
    refine V_lookup (off := 123) (tgt := 217) dX0_perform_94 (by decide) (by decide) (by decide) ?_
    refine V_aload_n dX0_perform_217 rfl ?_
    refine V_aload_n dX0_perform_218 rfl ?_
    refine V_iconst (v := 0) dX0_perform_219 rfl ?_
    refine V_getsN (v := .ref 1) dX0_perform_220 ltX0_15 (fun _ _ _ h => h.2.1.1) ?_
    refine V_iconst (v := 1) dX0_perform_223 rfl ?_
    refine V_ialdO (len := 7) 1 dX0_perform_224 (by decide) (fun _ _ _ h => h.2.1.2) (by decide) (by omega) ?_
    refine V_iload dX0_perform_225 rfl ?_
    refine V_iconst (v := 3) dX0_perform_227 rfl ?_
    refine V_imul dX0_perform_228 ?_
    refine V_iload dX0_perform_229 rfl ?_
    refine V_callV (ci := 0) (qperf1 n _ mr hR hn pa hpa _ 0 (r + 1) (dn + 1) (by omega) (by omega) _ _ _ i v (by decide) (ix_add hdn (by decide) (by omega)) (by omega) lg1_f (by omega) (hw.lg1 hpl.1) (by decide)) dX0_perform_231 mlX0_37 mtX0_perform ivX0_perform rfl rfl ⟨by omega, by omega⟩ (by decide) rfl rfl (by decide) (Nat.le_of_ble_eq_true rfl) rfl rfl ?_
    rintro _ _ _ _ ⟨rfl, rfl, rfl, rfl⟩
    refine V_iret dX0_perform_234 rfl rfl ?_
    exact ⟨rfl, rfl, rfl, rfl⟩
  | 2, _, hk =>
    refine V_iload dX0_perform_92 rfl ?_
    refine V_lookup (off := 82) (tgt := 176) dX0_perform_94 (by decide) (by decide) (by decide) ?_
    refine V_iload dX0_perform_176 rfl ?_
    refine V_iload dX0_perform_178 rfl ?_
    refine V_iadd dX0_perform_180 ?_
    refine V_iret dX0_perform_181 rfl rfl ?_
    exact ⟨rfl, rfl, rfl, rfl⟩
  | 3, _, hk =>
    refine V_iload dX0_perform_92 rfl ?_
    refine V_lookup (off := 82) (tgt := 176) dX0_perform_94 (by decide) (by decide) (by decide) ?_
    refine V_iload dX0_perform_176 rfl ?_
    refine V_iload dX0_perform_178 rfl ?_
    refine V_iadd dX0_perform_180 ?_
    refine V_iret dX0_perform_181 rfl rfl ?_
    exact ⟨rfl, rfl, rfl, rfl⟩
  | 4, _, hk =>
    refine V_iload dX0_perform_92 rfl ?_
    refine V_lookup (off := 123) (tgt := 217) dX0_perform_94 (by decide) (by decide) (by decide) ?_
    refine V_aload_n dX0_perform_217 rfl ?_
    refine V_aload_n dX0_perform_218 rfl ?_
    refine V_iconst (v := 0) dX0_perform_219 rfl ?_
    refine V_getsN (v := .ref 1) dX0_perform_220 ltX0_15 (fun _ _ _ h => h.2.1.1) ?_
    refine V_iconst (v := 1) dX0_perform_223 rfl ?_
    refine V_ialdO (len := 7) 1 dX0_perform_224 (by decide) (fun _ _ _ h => h.2.1.2) (by decide) (by omega) ?_
    refine V_iload dX0_perform_225 rfl ?_
    refine V_iconst (v := 3) dX0_perform_227 rfl ?_
    refine V_imul dX0_perform_228 ?_
    refine V_iload dX0_perform_229 rfl ?_
    refine V_callV (ci := 0) (qperf1 n _ mr hR hn pa hpa _ 0 (r + 1) (dn + 1) (by omega) (by omega) _ _ _ i v (by decide) (ix_add hdn (by decide) (by omega)) (by omega) lg1_f (by omega) (hw.lg1 hpl.1) (by decide)) dX0_perform_231 mlX0_37 mtX0_perform ivX0_perform rfl rfl ⟨by omega, by omega⟩ (by decide) rfl rfl (by decide) (Nat.le_of_ble_eq_true rfl) rfl rfl ?_
    rintro _ _ _ _ ⟨rfl, rfl, rfl, rfl⟩
    refine V_iret dX0_perform_234 rfl rfl ?_
    exact ⟨rfl, rfl, rfl, rfl⟩
  | 5, _, hk =>
    refine V_iload dX0_perform_92 rfl ?_
    refine V_lookup (off := 209) (tgt := 303) dX0_perform_94 (by decide) (by decide) (by decide) ?_
    refine V_aload_n dX0_perform_303 rfl ?_
    refine V_aload_n dX0_perform_304 rfl ?_
    refine V_iconst (v := 0) dX0_perform_305 rfl ?_
    refine V_getsN (v := .ref 1) dX0_perform_306 ltX0_15 (fun _ _ _ h => h.2.1.1) ?_
    refine V_iconst (v := 5) dX0_perform_309 rfl ?_
    refine V_ialdO (len := 7) 5 dX0_perform_310 (by decide) (fun _ _ _ h => h.2.1.2) (by decide) (by omega) ?_
    refine V_iload dX0_perform_311 rfl ?_
    refine V_iload dX0_perform_313 rfl ?_
    refine V_callV (ci := 0) (qperf1 n _ mr hR hn pa hpa _ 2 (r + 1) (dn + 1) (by omega) (by omega) _ _ _ i v (by decide) (ix_add hdn (by decide) (by omega)) (by omega) lg1_f (by omega) (hw.lg1 hpl.1) (by decide)) dX0_perform_315 mlX0_37 mtX0_perform ivX0_perform rfl rfl ⟨by omega, by omega⟩ (by decide) rfl rfl (by decide) (Nat.le_of_ble_eq_true rfl) rfl rfl ?_
    rintro _ _ _ _ ⟨rfl, rfl, rfl, rfl⟩
    refine V_iload dX0_perform_318 rfl ?_
    refine V_ixor dX0_perform_320 ?_
    refine V_iret dX0_perform_321 rfl rfl ?_
    exact ⟨rfl, rfl, rfl, rfl⟩
  | 6, _, hk =>
    refine V_iload dX0_perform_92 rfl ?_
    refine V_lookup (off := 82) (tgt := 176) dX0_perform_94 (by decide) (by decide) (by decide) ?_
    refine V_iload dX0_perform_176 rfl ?_
    refine V_iload dX0_perform_178 rfl ?_
    refine V_iadd dX0_perform_180 ?_
    refine V_iret dX0_perform_181 rfl rfl ?_
    exact ⟨rfl, rfl, rfl, rfl⟩
  | _ + 7, h, _ => exact absurd h (by omega)
set_option maxRecDepth 4000 in
theorem qperfA7 (n : Nat) (mi : MI) (mr : MR) (hR : RF mr) (hn : 186 ≤ n) (pa : Nat) (hpa : isP pa) (kd k r dn : Nat) (hkd : kd < 7) (hk9 : k < 7) (xk x xd i v : Int32) (hk : xk.toInt = (k : Int)) (hdn : xd.toInt = (dn : Int)) (hdn9 : dn ≤ 8) (hr : mi 34 1 = nI r) (hr9 : r ≤ 12) (hw : whoC mi pa i kd v) (hb : kd = k) : Ct KX0_perform 7 0 0 [.ref 34, .ref pa, .int 1, .int xk, .int x, .int xd] n mi mr (eqQ (some (.int (aV i v kd x))) n (lgT 34 1 35 mi r (aL kd)) mr) := by
  refine Ct.of2 [some (.ref 34), some (.ref pa), some (.int 1), some (.int xk), some (.int x), some (.int xd), none, none, none, none, none] (by decide +kernel) (Nat.le_of_ble_eq_true rfl) rfl ?_
  refine perf_head (by decide) n mi mr hR hn pa hpa 1 k r dn (by decide) hk9 _ _ _ _ rfl hk hdn (by omega) hr (by omega) (fun z => ?_)
  have hpl := hpa.le
  rw [hw.1, hw.2.2]
  match k, hk9, hk, hb with
  | 0, _, hk, hb =>
    subst hb
    refine V_iload dX0_perform_92 rfl ?_
    refine V_lookup (off := 88) (tgt := 182) dX0_perform_94 (by decide) (by decide) (by decide) ?_
    refine V_aload_n dX0_perform_182 rfl ?_
    refine V_aload_n dX0_perform_183 rfl ?_
    refine V_iconst (v := 0) dX0_perform_184 rfl ?_
    refine V_aload_n dX0_perform_185 rfl ?_
    refine V_geti 1 1 dX0_perform_186 lnX0_34 rfl (sP hpa) ⟨by omega, by omega⟩ ?_
    rw [lg1_row (by omega) (by omega), hw.2.1]
    refine V_iload dX0_perform_189 rfl ?_
    refine V_iload dX0_perform_191 rfl ?_
    refine V_callV (ci := 0) (qperfD n _ mr hR hn pa hpa _ _ (r + 1) (dn + 1) (by omega) (by omega) _ _ _ i v (nI_toInt (by omega)) (ix_add hdn (by decide) (by omega)) (by omega) lg1_f (by omega) (hw.lg1 hpl.1)) dX0_perform_193 mlX0_37 mtX0_perform ivX0_perform rfl rfl ⟨by omega, by omega⟩ (by decide) rfl rfl (by decide) (Nat.le_of_ble_eq_true rfl) rfl rfl ?_
    rintro _ _ _ _ ⟨rfl, rfl, rfl, rfl⟩
    refine V_iload dX0_perform_196 rfl ?_
    refine V_isub dX0_perform_198 ?_
    refine V_iret dX0_perform_199 rfl rfl ?_
    exact ⟨rfl, rfl, rfl, rfl⟩
  | 1, _, hk, hb =>
    subst hb
    refine V_iload dX0_perform_92 rfl ?_
    refine V_lookup (off := 88) (tgt := 182) dX0_perform_94 (by decide) (by decide) (by decide) ?_
    refine V_aload_n dX0_perform_182 rfl ?_
    refine V_aload_n dX0_perform_183 rfl ?_
    refine V_iconst (v := 0) dX0_perform_184 rfl ?_
    refine V_aload_n dX0_perform_185 rfl ?_
    refine V_geti 1 1 dX0_perform_186 lnX0_34 rfl (sP hpa) ⟨by omega, by omega⟩ ?_
    rw [lg1_row (by omega) (by omega), hw.2.1]
    refine V_iload dX0_perform_189 rfl ?_
    refine V_iload dX0_perform_191 rfl ?_
    refine V_callV (ci := 0) (qperfD n _ mr hR hn pa hpa _ _ (r + 1) (dn + 1) (by omega) (by omega) _ _ _ i v (nI_toInt (by omega)) (ix_add hdn (by decide) (by omega)) (by omega) lg1_f (by omega) (hw.lg1 hpl.1)) dX0_perform_193 mlX0_37 mtX0_perform ivX0_perform rfl rfl ⟨by omega, by omega⟩ (by decide) rfl rfl (by decide) (Nat.le_of_ble_eq_true rfl) rfl rfl ?_
    rintro _ _ _ _ ⟨rfl, rfl, rfl, rfl⟩
    refine V_iload dX0_perform_196 rfl ?_
    refine V_isub dX0_perform_198 ?_
    refine V_iret dX0_perform_199 rfl rfl ?_
    exact ⟨rfl, rfl, rfl, rfl⟩
  | 2, _, hk, hb =>
    subst hb
    refine V_iload dX0_perform_92 rfl ?_
    refine V_lookup (off := 141) (tgt := 235) dX0_perform_94 (by decide) (by decide) (by decide) ?_
    refine V_aload_n dX0_perform_235 rfl ?_
    refine V_aload_n dX0_perform_236 rfl ?_
    refine V_iconst (v := 1) dX0_perform_237 rfl ?_
    refine V_getsN (v := .ref 1) dX0_perform_238 ltX0_15 (fun _ _ _ h => h.2.1.1) ?_
    refine V_iconst (v := 2) dX0_perform_241 rfl ?_
    refine V_ialdO (len := 7) 2 dX0_perform_242 (by decide) (fun _ _ _ h => h.2.1.2) (by decide) (by omega) ?_
    refine V_iload dX0_perform_243 rfl ?_
    refine V_iload dX0_perform_245 rfl ?_
    refine V_callV (ci := 0) (qperf2 n _ mr hR hn pa hpa _ 0 (r + 1) (dn + 1) (by omega) (by omega) _ _ _ i v (by decide) (ix_add hdn (by decide) (by omega)) (by omega) lg1_f (by omega) (hw.lg1 hpl.1) (by decide)) dX0_perform_247 mlX0_37 mtX0_perform ivX0_perform rfl rfl ⟨by omega, by omega⟩ (by decide) rfl rfl (by decide) (Nat.le_of_ble_eq_true rfl) rfl rfl ?_
    rintro _ _ _ _ ⟨rfl, rfl, rfl, rfl⟩
    refine V_ineg dX0_perform_250 ?_
    refine V_iret dX0_perform_251 rfl rfl ?_
    exact ⟨rfl, rfl, rfl, rfl⟩
  | 3, _, hk, hb =>
    subst hb
    refine V_iload dX0_perform_92 rfl ?_
    refine V_lookup (off := 88) (tgt := 182) dX0_perform_94 (by decide) (by decide) (by decide) ?_
    refine V_aload_n dX0_perform_182 rfl ?_
    refine V_aload_n dX0_perform_183 rfl ?_
    refine V_iconst (v := 0) dX0_perform_184 rfl ?_
    refine V_aload_n dX0_perform_185 rfl ?_
    refine V_geti 1 1 dX0_perform_186 lnX0_34 rfl (sP hpa) ⟨by omega, by omega⟩ ?_
    rw [lg1_row (by omega) (by omega), hw.2.1]
    refine V_iload dX0_perform_189 rfl ?_
    refine V_iload dX0_perform_191 rfl ?_
    refine V_callV (ci := 0) (qperfD n _ mr hR hn pa hpa _ _ (r + 1) (dn + 1) (by omega) (by omega) _ _ _ i v (nI_toInt (by omega)) (ix_add hdn (by decide) (by omega)) (by omega) lg1_f (by omega) (hw.lg1 hpl.1)) dX0_perform_193 mlX0_37 mtX0_perform ivX0_perform rfl rfl ⟨by omega, by omega⟩ (by decide) rfl rfl (by decide) (Nat.le_of_ble_eq_true rfl) rfl rfl ?_
    rintro _ _ _ _ ⟨rfl, rfl, rfl, rfl⟩
    refine V_iload dX0_perform_196 rfl ?_
    refine V_isub dX0_perform_198 ?_
    refine V_iret dX0_perform_199 rfl rfl ?_
    exact ⟨rfl, rfl, rfl, rfl⟩
  | 4, _, hk, hb =>
    subst hb
    refine V_iload dX0_perform_92 rfl ?_
    refine V_lookup (off := 88) (tgt := 182) dX0_perform_94 (by decide) (by decide) (by decide) ?_
    refine V_aload_n dX0_perform_182 rfl ?_
    refine V_aload_n dX0_perform_183 rfl ?_
    refine V_iconst (v := 0) dX0_perform_184 rfl ?_
    refine V_aload_n dX0_perform_185 rfl ?_
    refine V_geti 1 1 dX0_perform_186 lnX0_34 rfl (sP hpa) ⟨by omega, by omega⟩ ?_
    rw [lg1_row (by omega) (by omega), hw.2.1]
    refine V_iload dX0_perform_189 rfl ?_
    refine V_iload dX0_perform_191 rfl ?_
    refine V_callV (ci := 0) (qperfD n _ mr hR hn pa hpa _ _ (r + 1) (dn + 1) (by omega) (by omega) _ _ _ i v (nI_toInt (by omega)) (ix_add hdn (by decide) (by omega)) (by omega) lg1_f (by omega) (hw.lg1 hpl.1)) dX0_perform_193 mlX0_37 mtX0_perform ivX0_perform rfl rfl ⟨by omega, by omega⟩ (by decide) rfl rfl (by decide) (Nat.le_of_ble_eq_true rfl) rfl rfl ?_
    rintro _ _ _ _ ⟨rfl, rfl, rfl, rfl⟩
    refine V_iload dX0_perform_196 rfl ?_
    refine V_isub dX0_perform_198 ?_
    refine V_iret dX0_perform_199 rfl rfl ?_
    exact ⟨rfl, rfl, rfl, rfl⟩
  | 5, _, hk, hb =>
    subst hb
    refine V_iload dX0_perform_92 rfl ?_
    refine V_lookup (off := 141) (tgt := 235) dX0_perform_94 (by decide) (by decide) (by decide) ?_
    refine V_aload_n dX0_perform_235 rfl ?_
    refine V_aload_n dX0_perform_236 rfl ?_
    refine V_iconst (v := 1) dX0_perform_237 rfl ?_
    refine V_getsN (v := .ref 1) dX0_perform_238 ltX0_15 (fun _ _ _ h => h.2.1.1) ?_
    refine V_iconst (v := 2) dX0_perform_241 rfl ?_
    refine V_ialdO (len := 7) 2 dX0_perform_242 (by decide) (fun _ _ _ h => h.2.1.2) (by decide) (by omega) ?_
    refine V_iload dX0_perform_243 rfl ?_
    refine V_iload dX0_perform_245 rfl ?_
    refine V_callV (ci := 0) (qperf2 n _ mr hR hn pa hpa _ 0 (r + 1) (dn + 1) (by omega) (by omega) _ _ _ i v (by decide) (ix_add hdn (by decide) (by omega)) (by omega) lg1_f (by omega) (hw.lg1 hpl.1) (by decide)) dX0_perform_247 mlX0_37 mtX0_perform ivX0_perform rfl rfl ⟨by omega, by omega⟩ (by decide) rfl rfl (by decide) (Nat.le_of_ble_eq_true rfl) rfl rfl ?_
    rintro _ _ _ _ ⟨rfl, rfl, rfl, rfl⟩
    refine V_ineg dX0_perform_250 ?_
    refine V_iret dX0_perform_251 rfl rfl ?_
    exact ⟨rfl, rfl, rfl, rfl⟩
  | 6, _, hk, hb =>
    subst hb
    refine V_iload dX0_perform_92 rfl ?_
    refine V_lookup (off := 228) (tgt := 322) dX0_perform_94 (by decide) (by decide) (by decide) ?_
    refine V_aload_n dX0_perform_322 rfl ?_
    refine V_aload_n dX0_perform_323 rfl ?_
    refine V_iconst (v := 1) dX0_perform_324 rfl ?_
    refine V_getsN (v := .ref 1) dX0_perform_325 ltX0_15 (fun _ _ _ h => h.2.1.1) ?_
    refine V_bipush (v := 6) dX0_perform_328 rfl ?_
    refine V_ialdO (len := 7) 6 dX0_perform_330 (by decide) (fun _ _ _ h => h.2.1.2) (by decide) (by omega) ?_
    refine V_iload dX0_perform_331 rfl ?_
    refine V_iload dX0_perform_333 rfl ?_
    refine V_callV (ci := 0) (qperf2 n _ mr hR hn pa hpa _ 3 (r + 1) (dn + 1) (by omega) (by omega) _ _ _ i v (by decide) (ix_add hdn (by decide) (by omega)) (by omega) lg1_f (by omega) (hw.lg1 hpl.1) (by decide)) dX0_perform_335 mlX0_37 mtX0_perform ivX0_perform rfl rfl ⟨by omega, by omega⟩ (by decide) rfl rfl (by decide) (Nat.le_of_ble_eq_true rfl) rfl rfl ?_
    rintro _ _ _ _ ⟨rfl, rfl, rfl, rfl⟩
    refine V_iload dX0_perform_338 rfl ?_
    refine V_iadd dX0_perform_340 ?_
    refine V_iret dX0_perform_341 rfl rfl ?_
    exact ⟨rfl, rfl, rfl, rfl⟩
  | _ + 7, h, _, _ => exact absurd h (by omega)
def actL (a k : Nat) : List Int32 := match a with
  | 0 => dL k
  | 1 => aL k
  | _ => tL k
def actV (a : Nat) (i v : Int32) (k : Nat) (x : Int32) : Int32 := match a with
  | 0 => dV i k x
  | 1 => aV i v k x
  | _ => tV i v k x
theorem qX0_perform (n : Nat) (mi : MI) (mr : MR) (hR : RF mr) (hn : 186 ≤ n) (pa : Nat) (hpa : isP pa) (kd a : Nat) (hkd : kd < 7) (ha9 : a < 3) (xa x i v : Int32) (ha : xa.toInt = (a : Int)) (hr : mi 34 1 = nI 0) (hw : whoC mi pa i kd v) : Ct KX0_perform 7 0 0 [.ref 34, .ref pa, .int xa, .int (nI kd), .int x, .int 0] n mi mr (eqQ (some (.int (actV a i v kd x))) n (lgT 34 1 35 mi 0 (actL a kd)) mr) := by
  have hk : (nI kd).toInt = (kd : Int) := nI_toInt (by omega)
  match a, ha9, ha with
  | 0, _, ha =>
    rw [show xa = 0 from nI_of_toInt ha]
    exact qperfD7 n mi mr hR hn pa hpa kd kd 0 0 hkd hkd _ _ _ i v hk rfl (by omega) hr (by omega) hw
  | 1, _, ha =>
    rw [show xa = 1 from nI_of_toInt ha]
    exact qperfA7 n mi mr hR hn pa hpa kd kd 0 0 hkd hkd _ _ _ i v hk rfl (by omega) hr (by omega) hw rfl
  | 2, _, ha =>
    rw [show xa = 2 from nI_of_toInt ha]
    exact qperfT n mi mr hR hn pa hpa kd kd 0 0 hkd hkd _ _ _ i v hk rfl (by omega) hr (by omega) hw rfl
set_option maxRecDepth 4000 in
theorem qX8_ranBody (n : Nat) (mi : MI) (mr : MR) (hR : RF mr) (hn : 186 ≤ n) (b : Int32) (r : Nat) (hr : mi 173 25 = nI r) (hr9 : r < 20)  : Ct KX8_ranBody 1 0 0 [.ref 173, .int b] n mi mr (eqQ none n (lg1 173 25 185 mi r b) mr) := by
  refine Ct.of2 [some (.ref 173), some (.int b)] (by decide +kernel) (Nat.le_of_ble_eq_true rfl) rfl ?_
  have hr1 : (mi 173 25).toInt = (r : Int) := by rw [hr]; exact nI_toInt (by omega)
  refine V_aload_n dX8_ranBody_0 rfl ?_
  refine V_geti 8 25 dX8_ranBody_1 (Or.inl lkX8_271) rfl rfl ⟨by omega, by omega⟩ ?_
  refine V_bipush (v := 20) dX8_ranBody_4 rfl ?_
  refine V_icmp_ge (tgt := 19) dX8_ranBody_6 (by decide) (fun c6 => absurd ((le_nat (x := 20) (a := 20) rfl hr1).mp c6) (by omega)) (fun c6 => ?_)
  refine V_aload_n dX8_ranBody_9 rfl ?_
  refine V_getr (b := 185) 8 24 dX8_ranBody_10 (Or.inl lkX8_46) rfl rfl ⟨by omega, by omega⟩ (hR _ _ _ rfl) ?_
  refine V_aload_n dX8_ranBody_13 rfl ?_
  refine V_geti 8 25 dX8_ranBody_14 (Or.inl lkX8_271) rfl rfl ⟨by omega, by omega⟩ ?_
  refine V_iload_n dX8_ranBody_17 rfl ?_
  refine V_iast (len := 20) r dX8_ranBody_18 rfl ⟨by omega, by omega⟩ hr1 (by omega) ?_
  refine V_aload_n dX8_ranBody_19 rfl ?_
  refine V_dup dX8_ranBody_20 rfl ?_
  refine V_geti 8 25 dX8_ranBody_21 (Or.inl lkX8_271) rfl rfl ⟨by omega, by omega⟩ ?_
  refine V_iconst (v := 1) dX8_ranBody_24 rfl ?_
  refine V_iadd dX8_ranBody_25 ?_
  have e9 : up2 mi 185 r b 173 25 + 1 = nI (r + 1) := by
    rw [up2_row (by decide), hr, nI_succ]
  rw [e9]
  refine V_puti 8 25 dX8_ranBody_26 (Or.inl lkX8_271) rfl rfl rfl rfl ⟨by omega, by omega⟩ ?_
  refine V_ret dX8_ranBody_29 rfl ?_
  exact ⟨rfl, rfl, rfl, rfl⟩
set_option maxRecDepth 4000 in
theorem qX8_plainDrinks (n : Nat) (mi : MI) (mr : MR) (hR : RF mr) (hn : 186 ≤ n) (kd r : Nat) (hkd : kd < 7) (x i v : Int32) (hr : mi 173 25 = nI r) (hr9 : r ≤ 18) (hw : whoM mi i kd v)  : Ct KX8_plainDrinks 2 0 0 [.ref 173, .int x] n mi mr (eqQ (some (.int (x + i))) n (lgT 173 25 185 mi r ([1])) mr) := by
  refine Ct.of2 [some (.ref 173), some (.int x)] (by decide +kernel) (Nat.le_of_ble_eq_true rfl) rfl ?_
  refine V_aload_n dX8_plainDrinks_0 rfl ?_
  refine V_iconst (v := 1) dX8_plainDrinks_1 rfl ?_
  refine V_callV (ci := 8) (qX8_ranBody n _ mr hR hn _ r hr (by omega)) dX8_plainDrinks_2 mlX8_274 mtX8_ranBody ivX8_ranBody rfl rfl ⟨by omega, by omega⟩ (by decide) rfl rfl (by decide) (Nat.le_of_ble_eq_true rfl) rfl rfl ?_
  rintro _ _ _ _ ⟨rfl, rfl, rfl, rfl⟩
  refine V_iload_n dX8_plainDrinks_5 rfl ?_
  refine V_aload_n dX8_plainDrinks_6 rfl ?_
  refine V_geti 8 27 dX8_plainDrinks_7 (Or.inl lkX8_277) rfl rfl ⟨by omega, by omega⟩ ?_
  rw [hw.lg1.1]
  refine V_iadd dX8_plainDrinks_10 ?_
  refine V_iret dX8_plainDrinks_11 rfl rfl ?_
  exact ⟨rfl, rfl, rfl, rfl⟩
set_option maxRecDepth 4000 in
theorem qX8_drinksActs (n : Nat) (mi : MI) (mr : MR) (hR : RF mr) (hn : 186 ≤ n) (kd r : Nat) (hkd : kd < 7) (x i v : Int32) (hr : mi 173 25 = nI r) (hr9 : r ≤ 16) (hw : whoM mi i kd v) : Ct KX8_drinksActs 3 0 0 [.ref 173, .int x] n mi mr (eqQ (some (.int (dV i kd x))) n (lgT 173 25 185 mi r (dL kd)) mr) := by
  refine Ct.of2 [some (.ref 173), some (.int x)] (by decide +kernel) (Nat.le_of_ble_eq_true rfl) rfl ?_
  have hk := hw.2.1
  match kd, hkd, hk, hw with
  | 0, hkd, hk, hw =>
    refine V_aload_n dX8_drinksActs_0 rfl ?_
    refine V_geti 8 26 dX8_drinksActs_1 (Or.inl lkX8_280) rfl rfl ⟨by omega, by omega⟩ ?_
    refine V_iconst (v := 1) dX8_drinksActs_4 rfl ?_
    refine V_callS (qX8_isUnder _ _ _ _ _) dX8_drinksActs_5 mlX8_283 mtX8_isUnder smX8_isUnder rfl rfl (by decide) (Nat.le_of_ble_eq_true rfl) rfl rfl ?_
    rintro _ _ _ _ ⟨rfl, rfl, rfl, rfl⟩
    rw [hk]
    refine V_if_eq (tgt := 25) dX8_drinksActs_8 (by decide) (fun c8 => ?_) (fun c8 => absurd (by decide) c8)
    refine V_aload_n dX8_drinksActs_25 rfl ?_
    refine V_geti 8 26 dX8_drinksActs_26 (Or.inl lkX8_280) rfl rfl ⟨by omega, by omega⟩ ?_
    refine V_iconst (v := 5) dX8_drinksActs_29 rfl ?_
    refine V_icmp_ne (tgt := 50) dX8_drinksActs_30 (by decide) (fun c30 => ?_) (fun c30 => absurd (hk.symm.trans c30) (by decide))
    refine V_aload_n dX8_drinksActs_50 rfl ?_
    refine V_iload_n dX8_drinksActs_51 rfl ?_
    refine V_callV (ci := 8) (qX8_plainDrinks n _ mr hR hn _ (r) (by omega) _ i v hr (by omega) hw) dX8_drinksActs_52 mlX8_286 mtX8_plainDrinks ivX8_plainDrinks rfl rfl ⟨by omega, by omega⟩ (by decide) rfl rfl (by decide) (Nat.le_of_ble_eq_true rfl) rfl rfl ?_
    rintro _ _ _ _ ⟨rfl, rfl, rfl, rfl⟩
    refine V_iret dX8_drinksActs_55 rfl rfl ?_
    exact ⟨rfl, rfl, rfl, rfl⟩
  | 1, hkd, hk, hw =>
    refine V_aload_n dX8_drinksActs_0 rfl ?_
    refine V_geti 8 26 dX8_drinksActs_1 (Or.inl lkX8_280) rfl rfl ⟨by omega, by omega⟩ ?_
    refine V_iconst (v := 1) dX8_drinksActs_4 rfl ?_
    refine V_callS (qX8_isUnder _ _ _ _ _) dX8_drinksActs_5 mlX8_283 mtX8_isUnder smX8_isUnder rfl rfl (by decide) (Nat.le_of_ble_eq_true rfl) rfl rfl ?_
    rintro _ _ _ _ ⟨rfl, rfl, rfl, rfl⟩
    rw [hk]
    refine V_if_eq (tgt := 25) dX8_drinksActs_8 (by decide) (fun c8 => absurd c8 (by decide)) (fun c8 => ?_)
    refine V_aload_n dX8_drinksActs_11 rfl ?_
    refine V_bipush (v := 11) dX8_drinksActs_12 rfl ?_
    refine V_callV (ci := 8) (qX8_ranBody n _ mr hR hn _ r hr (by omega)) dX8_drinksActs_14 mlX8_274 mtX8_ranBody ivX8_ranBody rfl rfl ⟨by omega, by omega⟩ (by decide) rfl rfl (by decide) (Nat.le_of_ble_eq_true rfl) rfl rfl ?_
    rintro _ _ _ _ ⟨rfl, rfl, rfl, rfl⟩
    refine V_aload_n dX8_drinksActs_17 rfl ?_
    refine V_iload_n dX8_drinksActs_18 rfl ?_
    refine V_iconst (v := 3) dX8_drinksActs_19 rfl ?_
    refine V_imul dX8_drinksActs_20 ?_
    refine V_callV (ci := 8) (qX8_plainDrinks n _ mr hR hn _ (r + 1) (by omega) _ i v lg1_f (by omega) hw.lg1) dX8_drinksActs_21 mlX8_286 mtX8_plainDrinks ivX8_plainDrinks rfl rfl ⟨by omega, by omega⟩ (by decide) rfl rfl (by decide) (Nat.le_of_ble_eq_true rfl) rfl rfl ?_
    rintro _ _ _ _ ⟨rfl, rfl, rfl, rfl⟩
    refine V_iret dX8_drinksActs_24 rfl rfl ?_
    exact ⟨rfl, rfl, rfl, rfl⟩
  | 2, hkd, hk, hw =>
    refine V_aload_n dX8_drinksActs_0 rfl ?_
    refine V_geti 8 26 dX8_drinksActs_1 (Or.inl lkX8_280) rfl rfl ⟨by omega, by omega⟩ ?_
    refine V_iconst (v := 1) dX8_drinksActs_4 rfl ?_
    refine V_callS (qX8_isUnder _ _ _ _ _) dX8_drinksActs_5 mlX8_283 mtX8_isUnder smX8_isUnder rfl rfl (by decide) (Nat.le_of_ble_eq_true rfl) rfl rfl ?_
    rintro _ _ _ _ ⟨rfl, rfl, rfl, rfl⟩
    rw [hk]
    refine V_if_eq (tgt := 25) dX8_drinksActs_8 (by decide) (fun c8 => ?_) (fun c8 => absurd (by decide) c8)
    refine V_aload_n dX8_drinksActs_25 rfl ?_
    refine V_geti 8 26 dX8_drinksActs_26 (Or.inl lkX8_280) rfl rfl ⟨by omega, by omega⟩ ?_
    refine V_iconst (v := 5) dX8_drinksActs_29 rfl ?_
    refine V_icmp_ne (tgt := 50) dX8_drinksActs_30 (by decide) (fun c30 => ?_) (fun c30 => absurd (hk.symm.trans c30) (by decide))
    refine V_aload_n dX8_drinksActs_50 rfl ?_
    refine V_iload_n dX8_drinksActs_51 rfl ?_
    refine V_callV (ci := 8) (qX8_plainDrinks n _ mr hR hn _ (r) (by omega) _ i v hr (by omega) hw) dX8_drinksActs_52 mlX8_286 mtX8_plainDrinks ivX8_plainDrinks rfl rfl ⟨by omega, by omega⟩ (by decide) rfl rfl (by decide) (Nat.le_of_ble_eq_true rfl) rfl rfl ?_
    rintro _ _ _ _ ⟨rfl, rfl, rfl, rfl⟩
    refine V_iret dX8_drinksActs_55 rfl rfl ?_
    exact ⟨rfl, rfl, rfl, rfl⟩
  | 3, hkd, hk, hw =>
    refine V_aload_n dX8_drinksActs_0 rfl ?_
    refine V_geti 8 26 dX8_drinksActs_1 (Or.inl lkX8_280) rfl rfl ⟨by omega, by omega⟩ ?_
    refine V_iconst (v := 1) dX8_drinksActs_4 rfl ?_
    refine V_callS (qX8_isUnder _ _ _ _ _) dX8_drinksActs_5 mlX8_283 mtX8_isUnder smX8_isUnder rfl rfl (by decide) (Nat.le_of_ble_eq_true rfl) rfl rfl ?_
    rintro _ _ _ _ ⟨rfl, rfl, rfl, rfl⟩
    rw [hk]
    refine V_if_eq (tgt := 25) dX8_drinksActs_8 (by decide) (fun c8 => ?_) (fun c8 => absurd (by decide) c8)
    refine V_aload_n dX8_drinksActs_25 rfl ?_
    refine V_geti 8 26 dX8_drinksActs_26 (Or.inl lkX8_280) rfl rfl ⟨by omega, by omega⟩ ?_
    refine V_iconst (v := 5) dX8_drinksActs_29 rfl ?_
    refine V_icmp_ne (tgt := 50) dX8_drinksActs_30 (by decide) (fun c30 => ?_) (fun c30 => absurd (hk.symm.trans c30) (by decide))
    refine V_aload_n dX8_drinksActs_50 rfl ?_
    refine V_iload_n dX8_drinksActs_51 rfl ?_
    refine V_callV (ci := 8) (qX8_plainDrinks n _ mr hR hn _ (r) (by omega) _ i v hr (by omega) hw) dX8_drinksActs_52 mlX8_286 mtX8_plainDrinks ivX8_plainDrinks rfl rfl ⟨by omega, by omega⟩ (by decide) rfl rfl (by decide) (Nat.le_of_ble_eq_true rfl) rfl rfl ?_
    rintro _ _ _ _ ⟨rfl, rfl, rfl, rfl⟩
    refine V_iret dX8_drinksActs_55 rfl rfl ?_
    exact ⟨rfl, rfl, rfl, rfl⟩
  | 4, hkd, hk, hw =>
    refine V_aload_n dX8_drinksActs_0 rfl ?_
    refine V_geti 8 26 dX8_drinksActs_1 (Or.inl lkX8_280) rfl rfl ⟨by omega, by omega⟩ ?_
    refine V_iconst (v := 1) dX8_drinksActs_4 rfl ?_
    refine V_callS (qX8_isUnder _ _ _ _ _) dX8_drinksActs_5 mlX8_283 mtX8_isUnder smX8_isUnder rfl rfl (by decide) (Nat.le_of_ble_eq_true rfl) rfl rfl ?_
    rintro _ _ _ _ ⟨rfl, rfl, rfl, rfl⟩
    rw [hk]
    refine V_if_eq (tgt := 25) dX8_drinksActs_8 (by decide) (fun c8 => absurd c8 (by decide)) (fun c8 => ?_)
    refine V_aload_n dX8_drinksActs_11 rfl ?_
    refine V_bipush (v := 11) dX8_drinksActs_12 rfl ?_
    refine V_callV (ci := 8) (qX8_ranBody n _ mr hR hn _ r hr (by omega)) dX8_drinksActs_14 mlX8_274 mtX8_ranBody ivX8_ranBody rfl rfl ⟨by omega, by omega⟩ (by decide) rfl rfl (by decide) (Nat.le_of_ble_eq_true rfl) rfl rfl ?_
    rintro _ _ _ _ ⟨rfl, rfl, rfl, rfl⟩
    refine V_aload_n dX8_drinksActs_17 rfl ?_
    refine V_iload_n dX8_drinksActs_18 rfl ?_
    refine V_iconst (v := 3) dX8_drinksActs_19 rfl ?_
    refine V_imul dX8_drinksActs_20 ?_
    refine V_callV (ci := 8) (qX8_plainDrinks n _ mr hR hn _ (r + 1) (by omega) _ i v lg1_f (by omega) hw.lg1) dX8_drinksActs_21 mlX8_286 mtX8_plainDrinks ivX8_plainDrinks rfl rfl ⟨by omega, by omega⟩ (by decide) rfl rfl (by decide) (Nat.le_of_ble_eq_true rfl) rfl rfl ?_
    rintro _ _ _ _ ⟨rfl, rfl, rfl, rfl⟩
    refine V_iret dX8_drinksActs_24 rfl rfl ?_
    exact ⟨rfl, rfl, rfl, rfl⟩
  | 5, hkd, hk, hw =>
    refine V_aload_n dX8_drinksActs_0 rfl ?_
    refine V_geti 8 26 dX8_drinksActs_1 (Or.inl lkX8_280) rfl rfl ⟨by omega, by omega⟩ ?_
    refine V_iconst (v := 1) dX8_drinksActs_4 rfl ?_
    refine V_callS (qX8_isUnder _ _ _ _ _) dX8_drinksActs_5 mlX8_283 mtX8_isUnder smX8_isUnder rfl rfl (by decide) (Nat.le_of_ble_eq_true rfl) rfl rfl ?_
    rintro _ _ _ _ ⟨rfl, rfl, rfl, rfl⟩
    rw [hk]
    refine V_if_eq (tgt := 25) dX8_drinksActs_8 (by decide) (fun c8 => ?_) (fun c8 => absurd (by decide) c8)
    refine V_aload_n dX8_drinksActs_25 rfl ?_
    refine V_geti 8 26 dX8_drinksActs_26 (Or.inl lkX8_280) rfl rfl ⟨by omega, by omega⟩ ?_
    refine V_iconst (v := 5) dX8_drinksActs_29 rfl ?_
    refine V_icmp_ne (tgt := 50) dX8_drinksActs_30 (by decide) (fun c30 => absurd hk c30) (fun c30 => ?_)
    refine V_aload_n dX8_drinksActs_33 rfl ?_
    refine V_bipush (v := 51) dX8_drinksActs_34 rfl ?_
    refine V_callV (ci := 8) (qX8_ranBody n _ mr hR hn _ r hr (by omega)) dX8_drinksActs_36 mlX8_274 mtX8_ranBody ivX8_ranBody rfl rfl ⟨by omega, by omega⟩ (by decide) rfl rfl (by decide) (Nat.le_of_ble_eq_true rfl) rfl rfl ?_
    rintro _ _ _ _ ⟨rfl, rfl, rfl, rfl⟩
    refine V_aload_n dX8_drinksActs_39 rfl ?_
    refine V_iload_n dX8_drinksActs_40 rfl ?_
    refine V_callV (ci := 8) (qX8_plainDrinks n _ mr hR hn _ (r + 1) (by omega) _ i v lg1_f (by omega) hw.lg1) dX8_drinksActs_41 mlX8_286 mtX8_plainDrinks ivX8_plainDrinks rfl rfl ⟨by omega, by omega⟩ (by decide) rfl rfl (by decide) (Nat.le_of_ble_eq_true rfl) rfl rfl ?_
    rintro _ _ _ _ ⟨rfl, rfl, rfl, rfl⟩
    refine V_aload_n dX8_drinksActs_44 rfl ?_
    refine V_geti 8 27 dX8_drinksActs_45 (Or.inl lkX8_277) rfl rfl ⟨by omega, by omega⟩ ?_
    rw [hw.lg1.lgT.1]
    refine V_ixor dX8_drinksActs_48 ?_
    refine V_iret dX8_drinksActs_49 rfl rfl ?_
    exact ⟨rfl, rfl, rfl, rfl⟩
  | 6, hkd, hk, hw =>
    refine V_aload_n dX8_drinksActs_0 rfl ?_
    refine V_geti 8 26 dX8_drinksActs_1 (Or.inl lkX8_280) rfl rfl ⟨by omega, by omega⟩ ?_
    refine V_iconst (v := 1) dX8_drinksActs_4 rfl ?_
    refine V_callS (qX8_isUnder _ _ _ _ _) dX8_drinksActs_5 mlX8_283 mtX8_isUnder smX8_isUnder rfl rfl (by decide) (Nat.le_of_ble_eq_true rfl) rfl rfl ?_
    rintro _ _ _ _ ⟨rfl, rfl, rfl, rfl⟩
    rw [hk]
    refine V_if_eq (tgt := 25) dX8_drinksActs_8 (by decide) (fun c8 => ?_) (fun c8 => absurd (by decide) c8)
    refine V_aload_n dX8_drinksActs_25 rfl ?_
    refine V_geti 8 26 dX8_drinksActs_26 (Or.inl lkX8_280) rfl rfl ⟨by omega, by omega⟩ ?_
    refine V_iconst (v := 5) dX8_drinksActs_29 rfl ?_
    refine V_icmp_ne (tgt := 50) dX8_drinksActs_30 (by decide) (fun c30 => ?_) (fun c30 => absurd (hk.symm.trans c30) (by decide))
    refine V_aload_n dX8_drinksActs_50 rfl ?_
    refine V_iload_n dX8_drinksActs_51 rfl ?_
    refine V_callV (ci := 8) (qX8_plainDrinks n _ mr hR hn _ (r) (by omega) _ i v hr (by omega) hw) dX8_drinksActs_52 mlX8_286 mtX8_plainDrinks ivX8_plainDrinks rfl rfl ⟨by omega, by omega⟩ (by decide) rfl rfl (by decide) (Nat.le_of_ble_eq_true rfl) rfl rfl ?_
    rintro _ _ _ _ ⟨rfl, rfl, rfl, rfl⟩
    refine V_iret dX8_drinksActs_55 rfl rfl ?_
    exact ⟨rfl, rfl, rfl, rfl⟩
  | _ + 7, h, _, _ => exact absurd h (by omega)
set_option maxRecDepth 4000 in
theorem qX8_plainAges (n : Nat) (mi : MI) (mr : MR) (hR : RF mr) (hn : 186 ≤ n) (kd r : Nat) (hkd : kd < 7) (x i v : Int32) (hr : mi 173 25 = nI r) (hr9 : r ≤ 14) (hw : whoM mi i kd v)  : Ct KX8_plainAges 4 0 0 [.ref 173, .int x] n mi mr (eqQ (some (.int (a2V i v kd x))) n (lgT 173 25 185 mi r (a2L kd)) mr) := by
  refine Ct.of2 [some (.ref 173), some (.int x)] (by decide +kernel) (Nat.le_of_ble_eq_true rfl) rfl ?_
  refine V_aload_n dX8_plainAges_0 rfl ?_
  refine V_iconst (v := 2) dX8_plainAges_1 rfl ?_
  refine V_callV (ci := 8) (qX8_ranBody n _ mr hR hn _ r hr (by omega)) dX8_plainAges_2 mlX8_274 mtX8_ranBody ivX8_ranBody rfl rfl ⟨by omega, by omega⟩ (by decide) rfl rfl (by decide) (Nat.le_of_ble_eq_true rfl) rfl rfl ?_
  rintro _ _ _ _ ⟨rfl, rfl, rfl, rfl⟩
  refine V_aload_n dX8_plainAges_5 rfl ?_
  refine V_iload_n dX8_plainAges_6 rfl ?_
  refine V_callV (ci := 8) (qX8_drinksActs n _ mr hR hn kd (r + 1) hkd _ i v lg1_f (by omega) hw.lg1) dX8_plainAges_7 mlX8_289 mtX8_drinksActs ivX8_drinksActs rfl rfl ⟨by omega, by omega⟩ (by decide) rfl rfl (by decide) (Nat.le_of_ble_eq_true rfl) rfl rfl ?_
  rintro _ _ _ _ ⟨rfl, rfl, rfl, rfl⟩
  refine V_aload_n dX8_plainAges_10 rfl ?_
  refine V_geti 8 28 dX8_plainAges_11 (Or.inl lkX8_292) rfl rfl ⟨by omega, by omega⟩ ?_
  rw [hw.lg1.lgT.2.2]
  refine V_isub dX8_plainAges_14 ?_
  refine V_iret dX8_plainAges_15 rfl rfl ?_
  exact ⟨rfl, rfl, rfl, rfl⟩
set_option maxRecDepth 4000 in
theorem qX8_agesActs (n : Nat) (mi : MI) (mr : MR) (hR : RF mr) (hn : 186 ≤ n) (kd r : Nat) (hkd : kd < 7) (x i v : Int32) (hr : mi 173 25 = nI r) (hr9 : r ≤ 12) (hw : whoM mi i kd v) : Ct KX8_agesActs 5 0 0 [.ref 173, .int x] n mi mr (eqQ (some (.int (aV i v kd x))) n (lgT 173 25 185 mi r (aL kd)) mr) := by
  refine Ct.of2 [some (.ref 173), some (.int x)] (by decide +kernel) (Nat.le_of_ble_eq_true rfl) rfl ?_
  have hk := hw.2.1
  match kd, hkd, hk, hw with
  | 0, hkd, hk, hw =>
    refine V_aload_n dX8_agesActs_0 rfl ?_
    refine V_geti 8 26 dX8_agesActs_1 (Or.inl lkX8_280) rfl rfl ⟨by omega, by omega⟩ ?_
    refine V_iconst (v := 2) dX8_agesActs_4 rfl ?_
    refine V_callS (qX8_isUnder _ _ _ _ _) dX8_agesActs_5 mlX8_283 mtX8_isUnder smX8_isUnder rfl rfl (by decide) (Nat.le_of_ble_eq_true rfl) rfl rfl ?_
    rintro _ _ _ _ ⟨rfl, rfl, rfl, rfl⟩
    rw [hk]
    refine V_if_eq (tgt := 24) dX8_agesActs_8 (by decide) (fun c8 => ?_) (fun c8 => absurd (by decide) c8)
    refine V_aload_n dX8_agesActs_24 rfl ?_
    refine V_geti 8 26 dX8_agesActs_25 (Or.inl lkX8_280) rfl rfl ⟨by omega, by omega⟩ ?_
    refine V_bipush (v := 6) dX8_agesActs_28 rfl ?_
    refine V_icmp_ne (tgt := 50) dX8_agesActs_30 (by decide) (fun c30 => ?_) (fun c30 => absurd (hk.symm.trans c30) (by decide))
    refine V_aload_n dX8_agesActs_50 rfl ?_
    refine V_iload_n dX8_agesActs_51 rfl ?_
    refine V_callV (ci := 8) (qX8_plainAges n _ mr hR hn _ (r) (by omega) _ i v hr (by omega) hw) dX8_agesActs_52 mlX8_295 mtX8_plainAges ivX8_plainAges rfl rfl ⟨by omega, by omega⟩ (by decide) rfl rfl (by decide) (Nat.le_of_ble_eq_true rfl) rfl rfl ?_
    rintro _ _ _ _ ⟨rfl, rfl, rfl, rfl⟩
    refine V_iret dX8_agesActs_55 rfl rfl ?_
    exact ⟨rfl, rfl, rfl, rfl⟩
  | 1, hkd, hk, hw =>
    refine V_aload_n dX8_agesActs_0 rfl ?_
    refine V_geti 8 26 dX8_agesActs_1 (Or.inl lkX8_280) rfl rfl ⟨by omega, by omega⟩ ?_
    refine V_iconst (v := 2) dX8_agesActs_4 rfl ?_
    refine V_callS (qX8_isUnder _ _ _ _ _) dX8_agesActs_5 mlX8_283 mtX8_isUnder smX8_isUnder rfl rfl (by decide) (Nat.le_of_ble_eq_true rfl) rfl rfl ?_
    rintro _ _ _ _ ⟨rfl, rfl, rfl, rfl⟩
    rw [hk]
    refine V_if_eq (tgt := 24) dX8_agesActs_8 (by decide) (fun c8 => ?_) (fun c8 => absurd (by decide) c8)
    refine V_aload_n dX8_agesActs_24 rfl ?_
    refine V_geti 8 26 dX8_agesActs_25 (Or.inl lkX8_280) rfl rfl ⟨by omega, by omega⟩ ?_
    refine V_bipush (v := 6) dX8_agesActs_28 rfl ?_
    refine V_icmp_ne (tgt := 50) dX8_agesActs_30 (by decide) (fun c30 => ?_) (fun c30 => absurd (hk.symm.trans c30) (by decide))
    refine V_aload_n dX8_agesActs_50 rfl ?_
    refine V_iload_n dX8_agesActs_51 rfl ?_
    refine V_callV (ci := 8) (qX8_plainAges n _ mr hR hn _ (r) (by omega) _ i v hr (by omega) hw) dX8_agesActs_52 mlX8_295 mtX8_plainAges ivX8_plainAges rfl rfl ⟨by omega, by omega⟩ (by decide) rfl rfl (by decide) (Nat.le_of_ble_eq_true rfl) rfl rfl ?_
    rintro _ _ _ _ ⟨rfl, rfl, rfl, rfl⟩
    refine V_iret dX8_agesActs_55 rfl rfl ?_
    exact ⟨rfl, rfl, rfl, rfl⟩
  | 2, hkd, hk, hw =>
    refine V_aload_n dX8_agesActs_0 rfl ?_
    refine V_geti 8 26 dX8_agesActs_1 (Or.inl lkX8_280) rfl rfl ⟨by omega, by omega⟩ ?_
    refine V_iconst (v := 2) dX8_agesActs_4 rfl ?_
    refine V_callS (qX8_isUnder _ _ _ _ _) dX8_agesActs_5 mlX8_283 mtX8_isUnder smX8_isUnder rfl rfl (by decide) (Nat.le_of_ble_eq_true rfl) rfl rfl ?_
    rintro _ _ _ _ ⟨rfl, rfl, rfl, rfl⟩
    rw [hk]
    refine V_if_eq (tgt := 24) dX8_agesActs_8 (by decide) (fun c8 => absurd c8 (by decide)) (fun c8 => ?_)
    refine V_aload_n dX8_agesActs_11 rfl ?_
    refine V_bipush (v := 21) dX8_agesActs_12 rfl ?_
    refine V_callV (ci := 8) (qX8_ranBody n _ mr hR hn _ r hr (by omega)) dX8_agesActs_14 mlX8_274 mtX8_ranBody ivX8_ranBody rfl rfl ⟨by omega, by omega⟩ (by decide) rfl rfl (by decide) (Nat.le_of_ble_eq_true rfl) rfl rfl ?_
    rintro _ _ _ _ ⟨rfl, rfl, rfl, rfl⟩
    refine V_aload_n dX8_agesActs_17 rfl ?_
    refine V_iload_n dX8_agesActs_18 rfl ?_
    refine V_callV (ci := 8) (qX8_plainAges n _ mr hR hn _ (r + 1) (by omega) _ i v lg1_f (by omega) hw.lg1) dX8_agesActs_19 mlX8_295 mtX8_plainAges ivX8_plainAges rfl rfl ⟨by omega, by omega⟩ (by decide) rfl rfl (by decide) (Nat.le_of_ble_eq_true rfl) rfl rfl ?_
    rintro _ _ _ _ ⟨rfl, rfl, rfl, rfl⟩
    refine V_ineg dX8_agesActs_22 ?_
    refine V_iret dX8_agesActs_23 rfl rfl ?_
    exact ⟨rfl, rfl, rfl, rfl⟩
  | 3, hkd, hk, hw =>
    refine V_aload_n dX8_agesActs_0 rfl ?_
    refine V_geti 8 26 dX8_agesActs_1 (Or.inl lkX8_280) rfl rfl ⟨by omega, by omega⟩ ?_
    refine V_iconst (v := 2) dX8_agesActs_4 rfl ?_
    refine V_callS (qX8_isUnder _ _ _ _ _) dX8_agesActs_5 mlX8_283 mtX8_isUnder smX8_isUnder rfl rfl (by decide) (Nat.le_of_ble_eq_true rfl) rfl rfl ?_
    rintro _ _ _ _ ⟨rfl, rfl, rfl, rfl⟩
    rw [hk]
    refine V_if_eq (tgt := 24) dX8_agesActs_8 (by decide) (fun c8 => ?_) (fun c8 => absurd (by decide) c8)
    refine V_aload_n dX8_agesActs_24 rfl ?_
    refine V_geti 8 26 dX8_agesActs_25 (Or.inl lkX8_280) rfl rfl ⟨by omega, by omega⟩ ?_
    refine V_bipush (v := 6) dX8_agesActs_28 rfl ?_
    refine V_icmp_ne (tgt := 50) dX8_agesActs_30 (by decide) (fun c30 => ?_) (fun c30 => absurd (hk.symm.trans c30) (by decide))
    refine V_aload_n dX8_agesActs_50 rfl ?_
    refine V_iload_n dX8_agesActs_51 rfl ?_
    refine V_callV (ci := 8) (qX8_plainAges n _ mr hR hn _ (r) (by omega) _ i v hr (by omega) hw) dX8_agesActs_52 mlX8_295 mtX8_plainAges ivX8_plainAges rfl rfl ⟨by omega, by omega⟩ (by decide) rfl rfl (by decide) (Nat.le_of_ble_eq_true rfl) rfl rfl ?_
    rintro _ _ _ _ ⟨rfl, rfl, rfl, rfl⟩
    refine V_iret dX8_agesActs_55 rfl rfl ?_
    exact ⟨rfl, rfl, rfl, rfl⟩
  | 4, hkd, hk, hw =>
    refine V_aload_n dX8_agesActs_0 rfl ?_
    refine V_geti 8 26 dX8_agesActs_1 (Or.inl lkX8_280) rfl rfl ⟨by omega, by omega⟩ ?_
    refine V_iconst (v := 2) dX8_agesActs_4 rfl ?_
    refine V_callS (qX8_isUnder _ _ _ _ _) dX8_agesActs_5 mlX8_283 mtX8_isUnder smX8_isUnder rfl rfl (by decide) (Nat.le_of_ble_eq_true rfl) rfl rfl ?_
    rintro _ _ _ _ ⟨rfl, rfl, rfl, rfl⟩
    rw [hk]
    refine V_if_eq (tgt := 24) dX8_agesActs_8 (by decide) (fun c8 => ?_) (fun c8 => absurd (by decide) c8)
    refine V_aload_n dX8_agesActs_24 rfl ?_
    refine V_geti 8 26 dX8_agesActs_25 (Or.inl lkX8_280) rfl rfl ⟨by omega, by omega⟩ ?_
    refine V_bipush (v := 6) dX8_agesActs_28 rfl ?_
    refine V_icmp_ne (tgt := 50) dX8_agesActs_30 (by decide) (fun c30 => ?_) (fun c30 => absurd (hk.symm.trans c30) (by decide))
    refine V_aload_n dX8_agesActs_50 rfl ?_
    refine V_iload_n dX8_agesActs_51 rfl ?_
    refine V_callV (ci := 8) (qX8_plainAges n _ mr hR hn _ (r) (by omega) _ i v hr (by omega) hw) dX8_agesActs_52 mlX8_295 mtX8_plainAges ivX8_plainAges rfl rfl ⟨by omega, by omega⟩ (by decide) rfl rfl (by decide) (Nat.le_of_ble_eq_true rfl) rfl rfl ?_
    rintro _ _ _ _ ⟨rfl, rfl, rfl, rfl⟩
    refine V_iret dX8_agesActs_55 rfl rfl ?_
    exact ⟨rfl, rfl, rfl, rfl⟩
  | 5, hkd, hk, hw =>
    refine V_aload_n dX8_agesActs_0 rfl ?_
    refine V_geti 8 26 dX8_agesActs_1 (Or.inl lkX8_280) rfl rfl ⟨by omega, by omega⟩ ?_
    refine V_iconst (v := 2) dX8_agesActs_4 rfl ?_
    refine V_callS (qX8_isUnder _ _ _ _ _) dX8_agesActs_5 mlX8_283 mtX8_isUnder smX8_isUnder rfl rfl (by decide) (Nat.le_of_ble_eq_true rfl) rfl rfl ?_
    rintro _ _ _ _ ⟨rfl, rfl, rfl, rfl⟩
    rw [hk]
    refine V_if_eq (tgt := 24) dX8_agesActs_8 (by decide) (fun c8 => absurd c8 (by decide)) (fun c8 => ?_)
    refine V_aload_n dX8_agesActs_11 rfl ?_
    refine V_bipush (v := 21) dX8_agesActs_12 rfl ?_
    refine V_callV (ci := 8) (qX8_ranBody n _ mr hR hn _ r hr (by omega)) dX8_agesActs_14 mlX8_274 mtX8_ranBody ivX8_ranBody rfl rfl ⟨by omega, by omega⟩ (by decide) rfl rfl (by decide) (Nat.le_of_ble_eq_true rfl) rfl rfl ?_
    rintro _ _ _ _ ⟨rfl, rfl, rfl, rfl⟩
    refine V_aload_n dX8_agesActs_17 rfl ?_
    refine V_iload_n dX8_agesActs_18 rfl ?_
    refine V_callV (ci := 8) (qX8_plainAges n _ mr hR hn _ (r + 1) (by omega) _ i v lg1_f (by omega) hw.lg1) dX8_agesActs_19 mlX8_295 mtX8_plainAges ivX8_plainAges rfl rfl ⟨by omega, by omega⟩ (by decide) rfl rfl (by decide) (Nat.le_of_ble_eq_true rfl) rfl rfl ?_
    rintro _ _ _ _ ⟨rfl, rfl, rfl, rfl⟩
    refine V_ineg dX8_agesActs_22 ?_
    refine V_iret dX8_agesActs_23 rfl rfl ?_
    exact ⟨rfl, rfl, rfl, rfl⟩
  | 6, hkd, hk, hw =>
    refine V_aload_n dX8_agesActs_0 rfl ?_
    refine V_geti 8 26 dX8_agesActs_1 (Or.inl lkX8_280) rfl rfl ⟨by omega, by omega⟩ ?_
    refine V_iconst (v := 2) dX8_agesActs_4 rfl ?_
    refine V_callS (qX8_isUnder _ _ _ _ _) dX8_agesActs_5 mlX8_283 mtX8_isUnder smX8_isUnder rfl rfl (by decide) (Nat.le_of_ble_eq_true rfl) rfl rfl ?_
    rintro _ _ _ _ ⟨rfl, rfl, rfl, rfl⟩
    rw [hk]
    refine V_if_eq (tgt := 24) dX8_agesActs_8 (by decide) (fun c8 => ?_) (fun c8 => absurd (by decide) c8)
    refine V_aload_n dX8_agesActs_24 rfl ?_
    refine V_geti 8 26 dX8_agesActs_25 (Or.inl lkX8_280) rfl rfl ⟨by omega, by omega⟩ ?_
    refine V_bipush (v := 6) dX8_agesActs_28 rfl ?_
    refine V_icmp_ne (tgt := 50) dX8_agesActs_30 (by decide) (fun c30 => absurd hk c30) (fun c30 => ?_)
    refine V_aload_n dX8_agesActs_33 rfl ?_
    refine V_bipush (v := 61) dX8_agesActs_34 rfl ?_
    refine V_callV (ci := 8) (qX8_ranBody n _ mr hR hn _ r hr (by omega)) dX8_agesActs_36 mlX8_274 mtX8_ranBody ivX8_ranBody rfl rfl ⟨by omega, by omega⟩ (by decide) rfl rfl (by decide) (Nat.le_of_ble_eq_true rfl) rfl rfl ?_
    rintro _ _ _ _ ⟨rfl, rfl, rfl, rfl⟩
    refine V_aload_n dX8_agesActs_39 rfl ?_
    refine V_iload_n dX8_agesActs_40 rfl ?_
    refine V_callV (ci := 8) (qX8_plainAges n _ mr hR hn _ (r + 1) (by omega) _ i v lg1_f (by omega) hw.lg1) dX8_agesActs_41 mlX8_295 mtX8_plainAges ivX8_plainAges rfl rfl ⟨by omega, by omega⟩ (by decide) rfl rfl (by decide) (Nat.le_of_ble_eq_true rfl) rfl rfl ?_
    rintro _ _ _ _ ⟨rfl, rfl, rfl, rfl⟩
    refine V_aload_n dX8_agesActs_44 rfl ?_
    refine V_geti 8 28 dX8_agesActs_45 (Or.inl lkX8_292) rfl rfl ⟨by omega, by omega⟩ ?_
    rw [hw.lg1.lgT.2.2]
    refine V_iadd dX8_agesActs_48 ?_
    refine V_iret dX8_agesActs_49 rfl rfl ?_
    exact ⟨rfl, rfl, rfl, rfl⟩
  | _ + 7, h, _, _ => exact absurd h (by omega)
set_option maxRecDepth 4000 in
theorem qX8_plainTelling (n : Nat) (mi : MI) (mr : MR) (hR : RF mr) (hn : 186 ≤ n) (kd r : Nat) (hkd : kd < 7) (x i v : Int32) (hr : mi 173 25 = nI r) (hr9 : r ≤ 10) (hw : whoM mi i kd v)  : Ct KX8_plainTelling 6 0 0 [.ref 173, .int x] n mi mr (eqQ (some (.int (t3V i v kd x))) n (lgT 173 25 185 mi r (t3L kd)) mr) := by
  refine Ct.of2 [some (.ref 173), some (.int x)] (by decide +kernel) (Nat.le_of_ble_eq_true rfl) rfl ?_
  refine V_aload_n dX8_plainTelling_0 rfl ?_
  refine V_iconst (v := 3) dX8_plainTelling_1 rfl ?_
  refine V_callV (ci := 8) (qX8_ranBody n _ mr hR hn _ r hr (by omega)) dX8_plainTelling_2 mlX8_274 mtX8_ranBody ivX8_ranBody rfl rfl ⟨by omega, by omega⟩ (by decide) rfl rfl (by decide) (Nat.le_of_ble_eq_true rfl) rfl rfl ?_
  rintro _ _ _ _ ⟨rfl, rfl, rfl, rfl⟩
  refine V_aload_n dX8_plainTelling_5 rfl ?_
  refine V_iload_n dX8_plainTelling_6 rfl ?_
  refine V_callV (ci := 8) (qX8_agesActs n _ mr hR hn kd (r + 1) hkd _ i v lg1_f (by omega) hw.lg1) dX8_plainTelling_7 mlX8_298 mtX8_agesActs ivX8_agesActs rfl rfl ⟨by omega, by omega⟩ (by decide) rfl rfl (by decide) (Nat.le_of_ble_eq_true rfl) rfl rfl ?_
  rintro _ _ _ _ ⟨rfl, rfl, rfl, rfl⟩
  refine V_iconst (v := 2) dX8_plainTelling_10 rfl ?_
  refine V_imul dX8_plainTelling_11 ?_
  refine V_iret dX8_plainTelling_12 rfl rfl ?_
  exact ⟨rfl, rfl, rfl, rfl⟩
set_option maxRecDepth 4000 in
theorem qX8_tellsActs (n : Nat) (mi : MI) (mr : MR) (hR : RF mr) (hn : 186 ≤ n) (kd r : Nat) (hkd : kd < 7) (x i v : Int32) (hr : mi 173 25 = nI r) (hr9 : r ≤ 8) (hw : whoM mi i kd v) : Ct KX8_tellsActs 7 0 0 [.ref 173, .int x] n mi mr (eqQ (some (.int (tV i v kd x))) n (lgT 173 25 185 mi r (tL kd)) mr) := by
  refine Ct.of2 [some (.ref 173), some (.int x), none] (by decide +kernel) (Nat.le_of_ble_eq_true rfl) rfl ?_
  have hk := hw.2.1
  match kd, hkd, hk, hw with
  | 0, hkd, hk, hw =>
    refine V_aload_n dX8_tellsActs_0 rfl ?_
    refine V_geti 8 26 dX8_tellsActs_1 (Or.inl lkX8_280) rfl rfl ⟨by omega, by omega⟩ ?_
    refine V_iconst (v := 3) dX8_tellsActs_4 rfl ?_
    refine V_callS (qX8_isUnder _ _ _ _ _) dX8_tellsActs_5 mlX8_283 mtX8_isUnder smX8_isUnder rfl rfl (by decide) (Nat.le_of_ble_eq_true rfl) rfl rfl ?_
    rintro _ _ _ _ ⟨rfl, rfl, rfl, rfl⟩
    rw [hk]
    refine V_if_eq (tgt := 26) dX8_tellsActs_8 (by decide) (fun c8 => ?_) (fun c8 => absurd (by decide) c8)
    refine V_aload_n dX8_tellsActs_26 rfl ?_
    refine V_geti 8 26 dX8_tellsActs_27 (Or.inl lkX8_280) rfl rfl ⟨by omega, by omega⟩ ?_
    refine V_iconst (v := 4) dX8_tellsActs_30 rfl ?_
    refine V_icmp_ne (tgt := 56) dX8_tellsActs_31 (by decide) (fun c31 => ?_) (fun c31 => absurd (hk.symm.trans c31) (by decide))
    refine V_aload_n dX8_tellsActs_56 rfl ?_
    refine V_iload_n dX8_tellsActs_57 rfl ?_
    refine V_callV (ci := 8) (qX8_plainTelling n _ mr hR hn _ (r) (by omega) _ i v hr (by omega) hw) dX8_tellsActs_58 mlX8_301 mtX8_plainTelling ivX8_plainTelling rfl rfl ⟨by omega, by omega⟩ (by decide) rfl rfl (by decide) (Nat.le_of_ble_eq_true rfl) rfl rfl ?_
    rintro _ _ _ _ ⟨rfl, rfl, rfl, rfl⟩
    refine V_iret dX8_tellsActs_61 rfl rfl ?_
    exact ⟨rfl, rfl, rfl, rfl⟩
  | 1, hkd, hk, hw =>
    refine V_aload_n dX8_tellsActs_0 rfl ?_
    refine V_geti 8 26 dX8_tellsActs_1 (Or.inl lkX8_280) rfl rfl ⟨by omega, by omega⟩ ?_
    refine V_iconst (v := 3) dX8_tellsActs_4 rfl ?_
    refine V_callS (qX8_isUnder _ _ _ _ _) dX8_tellsActs_5 mlX8_283 mtX8_isUnder smX8_isUnder rfl rfl (by decide) (Nat.le_of_ble_eq_true rfl) rfl rfl ?_
    rintro _ _ _ _ ⟨rfl, rfl, rfl, rfl⟩
    rw [hk]
    refine V_if_eq (tgt := 26) dX8_tellsActs_8 (by decide) (fun c8 => ?_) (fun c8 => absurd (by decide) c8)
    refine V_aload_n dX8_tellsActs_26 rfl ?_
    refine V_geti 8 26 dX8_tellsActs_27 (Or.inl lkX8_280) rfl rfl ⟨by omega, by omega⟩ ?_
    refine V_iconst (v := 4) dX8_tellsActs_30 rfl ?_
    refine V_icmp_ne (tgt := 56) dX8_tellsActs_31 (by decide) (fun c31 => ?_) (fun c31 => absurd (hk.symm.trans c31) (by decide))
    refine V_aload_n dX8_tellsActs_56 rfl ?_
    refine V_iload_n dX8_tellsActs_57 rfl ?_
    refine V_callV (ci := 8) (qX8_plainTelling n _ mr hR hn _ (r) (by omega) _ i v hr (by omega) hw) dX8_tellsActs_58 mlX8_301 mtX8_plainTelling ivX8_plainTelling rfl rfl ⟨by omega, by omega⟩ (by decide) rfl rfl (by decide) (Nat.le_of_ble_eq_true rfl) rfl rfl ?_
    rintro _ _ _ _ ⟨rfl, rfl, rfl, rfl⟩
    refine V_iret dX8_tellsActs_61 rfl rfl ?_
    exact ⟨rfl, rfl, rfl, rfl⟩
  | 2, hkd, hk, hw =>
    refine V_aload_n dX8_tellsActs_0 rfl ?_
    refine V_geti 8 26 dX8_tellsActs_1 (Or.inl lkX8_280) rfl rfl ⟨by omega, by omega⟩ ?_
    refine V_iconst (v := 3) dX8_tellsActs_4 rfl ?_
    refine V_callS (qX8_isUnder _ _ _ _ _) dX8_tellsActs_5 mlX8_283 mtX8_isUnder smX8_isUnder rfl rfl (by decide) (Nat.le_of_ble_eq_true rfl) rfl rfl ?_
    rintro _ _ _ _ ⟨rfl, rfl, rfl, rfl⟩
    rw [hk]
    refine V_if_eq (tgt := 26) dX8_tellsActs_8 (by decide) (fun c8 => ?_) (fun c8 => absurd (by decide) c8)
    refine V_aload_n dX8_tellsActs_26 rfl ?_
    refine V_geti 8 26 dX8_tellsActs_27 (Or.inl lkX8_280) rfl rfl ⟨by omega, by omega⟩ ?_
    refine V_iconst (v := 4) dX8_tellsActs_30 rfl ?_
    refine V_icmp_ne (tgt := 56) dX8_tellsActs_31 (by decide) (fun c31 => ?_) (fun c31 => absurd (hk.symm.trans c31) (by decide))
    refine V_aload_n dX8_tellsActs_56 rfl ?_
    refine V_iload_n dX8_tellsActs_57 rfl ?_
    refine V_callV (ci := 8) (qX8_plainTelling n _ mr hR hn _ (r) (by omega) _ i v hr (by omega) hw) dX8_tellsActs_58 mlX8_301 mtX8_plainTelling ivX8_plainTelling rfl rfl ⟨by omega, by omega⟩ (by decide) rfl rfl (by decide) (Nat.le_of_ble_eq_true rfl) rfl rfl ?_
    rintro _ _ _ _ ⟨rfl, rfl, rfl, rfl⟩
    refine V_iret dX8_tellsActs_61 rfl rfl ?_
    exact ⟨rfl, rfl, rfl, rfl⟩
  | 3, hkd, hk, hw =>
    refine V_aload_n dX8_tellsActs_0 rfl ?_
    refine V_geti 8 26 dX8_tellsActs_1 (Or.inl lkX8_280) rfl rfl ⟨by omega, by omega⟩ ?_
    refine V_iconst (v := 3) dX8_tellsActs_4 rfl ?_
    refine V_callS (qX8_isUnder _ _ _ _ _) dX8_tellsActs_5 mlX8_283 mtX8_isUnder smX8_isUnder rfl rfl (by decide) (Nat.le_of_ble_eq_true rfl) rfl rfl ?_
    rintro _ _ _ _ ⟨rfl, rfl, rfl, rfl⟩
    rw [hk]
    refine V_if_eq (tgt := 26) dX8_tellsActs_8 (by decide) (fun c8 => absurd c8 (by decide)) (fun c8 => ?_)
    refine V_aload_n dX8_tellsActs_11 rfl ?_
    refine V_bipush (v := 31) dX8_tellsActs_12 rfl ?_
    refine V_callV (ci := 8) (qX8_ranBody n _ mr hR hn _ r hr (by omega)) dX8_tellsActs_14 mlX8_274 mtX8_ranBody ivX8_ranBody rfl rfl ⟨by omega, by omega⟩ (by decide) rfl rfl (by decide) (Nat.le_of_ble_eq_true rfl) rfl rfl ?_
    rintro _ _ _ _ ⟨rfl, rfl, rfl, rfl⟩
    refine V_aload_n dX8_tellsActs_17 rfl ?_
    refine V_iload_n dX8_tellsActs_18 rfl ?_
    refine V_callV (ci := 8) (qX8_plainTelling n _ mr hR hn _ (r + 1) (by omega) _ i v lg1_f (by omega) hw.lg1) dX8_tellsActs_19 mlX8_301 mtX8_plainTelling ivX8_plainTelling rfl rfl ⟨by omega, by omega⟩ (by decide) rfl rfl (by decide) (Nat.le_of_ble_eq_true rfl) rfl rfl ?_
    rintro _ _ _ _ ⟨rfl, rfl, rfl, rfl⟩
    refine V_bipush (v := 7) dX8_tellsActs_22 rfl ?_
    refine V_ixor dX8_tellsActs_24 ?_
    refine V_iret dX8_tellsActs_25 rfl rfl ?_
    exact ⟨rfl, rfl, rfl, rfl⟩
  | 4, hkd, hk, hw =>
    refine V_aload_n dX8_tellsActs_0 rfl ?_
    refine V_geti 8 26 dX8_tellsActs_1 (Or.inl lkX8_280) rfl rfl ⟨by omega, by omega⟩ ?_
    refine V_iconst (v := 3) dX8_tellsActs_4 rfl ?_
    refine V_callS (qX8_isUnder _ _ _ _ _) dX8_tellsActs_5 mlX8_283 mtX8_isUnder smX8_isUnder rfl rfl (by decide) (Nat.le_of_ble_eq_true rfl) rfl rfl ?_
    rintro _ _ _ _ ⟨rfl, rfl, rfl, rfl⟩
    rw [hk]
    refine V_if_eq (tgt := 26) dX8_tellsActs_8 (by decide) (fun c8 => ?_) (fun c8 => absurd (by decide) c8)
    refine V_aload_n dX8_tellsActs_26 rfl ?_
    refine V_geti 8 26 dX8_tellsActs_27 (Or.inl lkX8_280) rfl rfl ⟨by omega, by omega⟩ ?_
    refine V_iconst (v := 4) dX8_tellsActs_30 rfl ?_
    refine V_icmp_ne (tgt := 56) dX8_tellsActs_31 (by decide) (fun c31 => absurd hk c31) (fun c31 => ?_)
    refine V_aload_n dX8_tellsActs_34 rfl ?_
    refine V_bipush (v := 41) dX8_tellsActs_35 rfl ?_
    refine V_callV (ci := 8) (qX8_ranBody n _ mr hR hn _ r hr (by omega)) dX8_tellsActs_37 mlX8_274 mtX8_ranBody ivX8_ranBody rfl rfl ⟨by omega, by omega⟩ (by decide) rfl rfl (by decide) (Nat.le_of_ble_eq_true rfl) rfl rfl ?_
    rintro _ _ _ _ ⟨rfl, rfl, rfl, rfl⟩
    refine V_aload_n dX8_tellsActs_40 rfl ?_
    refine V_iload_n dX8_tellsActs_41 rfl ?_
    refine V_iconst (v := 1) dX8_tellsActs_42 rfl ?_
    refine V_isub dX8_tellsActs_43 ?_
    refine V_callV (ci := 8) (qX8_plainTelling n _ mr hR hn _ (r + 1) (by omega) _ i v lg1_f (by omega) hw.lg1) dX8_tellsActs_44 mlX8_301 mtX8_plainTelling ivX8_plainTelling rfl rfl ⟨by omega, by omega⟩ (by decide) rfl rfl (by decide) (Nat.le_of_ble_eq_true rfl) rfl rfl ?_
    rintro _ _ _ _ ⟨rfl, rfl, rfl, rfl⟩
    refine V_istore_n (L' := [_, _, _]) dX8_tellsActs_47 (by decide) rfl rfl ?_
    refine V_iload_n dX8_tellsActs_48 rfl ?_
    refine V_aload_n dX8_tellsActs_49 rfl ?_
    refine V_iconst (v := 2) dX8_tellsActs_50 rfl ?_
    refine V_callV (ci := 8) (qX8_drinksActs n _ mr hR hn _ (r + 1 + (t3L 4).length) (by omega) _ i v (lgT_f lg1_f) (by show r + 1 + 4 ≤ 16; omega) hw.lg1.lgT) dX8_tellsActs_51 mlX8_289 mtX8_drinksActs ivX8_drinksActs rfl rfl ⟨by omega, by omega⟩ (by decide) rfl rfl (by decide) (Nat.le_of_ble_eq_true rfl) rfl rfl ?_
    rintro _ _ _ _ ⟨rfl, rfl, rfl, rfl⟩
    refine V_iadd dX8_tellsActs_54 ?_
    refine V_iret dX8_tellsActs_55 rfl rfl ?_
    exact ⟨rfl, rfl, (lgT_app (l1 := t3L 4) (l2 := dL 4)).trans rfl, rfl⟩
  | 5, hkd, hk, hw =>
    refine V_aload_n dX8_tellsActs_0 rfl ?_
    refine V_geti 8 26 dX8_tellsActs_1 (Or.inl lkX8_280) rfl rfl ⟨by omega, by omega⟩ ?_
    refine V_iconst (v := 3) dX8_tellsActs_4 rfl ?_
    refine V_callS (qX8_isUnder _ _ _ _ _) dX8_tellsActs_5 mlX8_283 mtX8_isUnder smX8_isUnder rfl rfl (by decide) (Nat.le_of_ble_eq_true rfl) rfl rfl ?_
    rintro _ _ _ _ ⟨rfl, rfl, rfl, rfl⟩
    rw [hk]
    refine V_if_eq (tgt := 26) dX8_tellsActs_8 (by decide) (fun c8 => ?_) (fun c8 => absurd (by decide) c8)
    refine V_aload_n dX8_tellsActs_26 rfl ?_
    refine V_geti 8 26 dX8_tellsActs_27 (Or.inl lkX8_280) rfl rfl ⟨by omega, by omega⟩ ?_
    refine V_iconst (v := 4) dX8_tellsActs_30 rfl ?_
    refine V_icmp_ne (tgt := 56) dX8_tellsActs_31 (by decide) (fun c31 => ?_) (fun c31 => absurd (hk.symm.trans c31) (by decide))
    refine V_aload_n dX8_tellsActs_56 rfl ?_
    refine V_iload_n dX8_tellsActs_57 rfl ?_
    refine V_callV (ci := 8) (qX8_plainTelling n _ mr hR hn _ (r) (by omega) _ i v hr (by omega) hw) dX8_tellsActs_58 mlX8_301 mtX8_plainTelling ivX8_plainTelling rfl rfl ⟨by omega, by omega⟩ (by decide) rfl rfl (by decide) (Nat.le_of_ble_eq_true rfl) rfl rfl ?_
    rintro _ _ _ _ ⟨rfl, rfl, rfl, rfl⟩
    refine V_iret dX8_tellsActs_61 rfl rfl ?_
    exact ⟨rfl, rfl, rfl, rfl⟩
  | 6, hkd, hk, hw =>
    refine V_aload_n dX8_tellsActs_0 rfl ?_
    refine V_geti 8 26 dX8_tellsActs_1 (Or.inl lkX8_280) rfl rfl ⟨by omega, by omega⟩ ?_
    refine V_iconst (v := 3) dX8_tellsActs_4 rfl ?_
    refine V_callS (qX8_isUnder _ _ _ _ _) dX8_tellsActs_5 mlX8_283 mtX8_isUnder smX8_isUnder rfl rfl (by decide) (Nat.le_of_ble_eq_true rfl) rfl rfl ?_
    rintro _ _ _ _ ⟨rfl, rfl, rfl, rfl⟩
    rw [hk]
    refine V_if_eq (tgt := 26) dX8_tellsActs_8 (by decide) (fun c8 => absurd c8 (by decide)) (fun c8 => ?_)
    refine V_aload_n dX8_tellsActs_11 rfl ?_
    refine V_bipush (v := 31) dX8_tellsActs_12 rfl ?_
    refine V_callV (ci := 8) (qX8_ranBody n _ mr hR hn _ r hr (by omega)) dX8_tellsActs_14 mlX8_274 mtX8_ranBody ivX8_ranBody rfl rfl ⟨by omega, by omega⟩ (by decide) rfl rfl (by decide) (Nat.le_of_ble_eq_true rfl) rfl rfl ?_
    rintro _ _ _ _ ⟨rfl, rfl, rfl, rfl⟩
    refine V_aload_n dX8_tellsActs_17 rfl ?_
    refine V_iload_n dX8_tellsActs_18 rfl ?_
    refine V_callV (ci := 8) (qX8_plainTelling n _ mr hR hn _ (r + 1) (by omega) _ i v lg1_f (by omega) hw.lg1) dX8_tellsActs_19 mlX8_301 mtX8_plainTelling ivX8_plainTelling rfl rfl ⟨by omega, by omega⟩ (by decide) rfl rfl (by decide) (Nat.le_of_ble_eq_true rfl) rfl rfl ?_
    rintro _ _ _ _ ⟨rfl, rfl, rfl, rfl⟩
    refine V_bipush (v := 7) dX8_tellsActs_22 rfl ?_
    refine V_ixor dX8_tellsActs_24 ?_
    refine V_iret dX8_tellsActs_25 rfl rfl ?_
    exact ⟨rfl, rfl, rfl, rfl⟩
  | _ + 7, h, _, _ => exact absurd h (by omega)
abbrev okAct (S : Nat → Int32) (p a : Int32) : Prop := (0 ≤ p ∧ p < S 12) ∧ 0 ≤ a ∧ a ≤ 2
abbrev kdS (S : Nat → Int32) (p : Int32) : Nat := (S (20 + p.toNatClampNeg)).toNatClampNeg
def sAct (S : Nat → Int32) (p a x : Int32) : Int32 := if okAct S p a then actV a.toNatClampNeg p (S (26 + p.toNatClampNeg)) (kdS S p) x else 0
def sActL (S : Nat → Int32) (p a : Int32) : List Int32 := if okAct S p a then actL a.toNatClampNeg (kdS S p) else []
def cAct (mi : MI) (p a : Int32) : MI := lgT 34 1 35 (up2 mi 34 1 0) 0 (sActL (mi 174) p a)
def mAct (mi : MI) (p a : Int32) : MI := if okAct (mi 174) p a then lgT 173 25 185 (up2 (up2 (up2 (up2 mi 173 25 0) 173 26 (mi 174 (20 + p.toNatClampNeg))) 173 27 p) 173 28 (mi 174 (26 + p.toNatClampNeg))) 0 (sActL (mi 174) p a) else up2 mi 173 25 0
theorem sActL_no {S : Nat → Int32} {p a : Int32} (h : ¬ okAct S p a) : sActL S p a = [] := if_neg h
theorem idx2 {x : Int32} (h1 : 0 ≤ x) (h : x ≤ 2) : ∃ k : Nat, x.toInt = (k : Int) ∧ k < 3 := by
  simp only [Int32.le_iff_toInt_le, Int32.reduceToInt] at h1 h
  exact ⟨x.toInt.toNat, by omega, by omega⟩
set_option maxRecDepth 4000 in
theorem qX7_act (n : Nat) (mi : MI) (mr : MR) (c : CT) (I : INV n mi mr c) (p a x : Int32) : Ct KX7_act 8 0 0 [.ref 32, .int p, .int a, .int x] n mi mr (eqQ (some (.int (sAct (mi 174) p a x))) n (cAct mi p a) mr) := by
  refine Ct.of2 [some (.ref 32), some (.int p), some (.int a), some (.int x), none] (by decide +kernel) (Nat.le_of_ble_eq_true rfl) rfl ?_
  have hnum := I.2.2.2.2.2.1
  obtain ⟨hR, hn, ⟨⟨hN, hN6⟩, ⟨hW, hW5⟩, ⟨hL, hL5⟩, ⟨hT, hT100⟩, ⟨hS, hS5⟩, ⟨hP, hP8⟩, ⟨hBk, hB8⟩⟩, hrw⟩ := I.facts
  have hBD := I.2.2.1
  obtain ⟨⟨r1, r2, r3, r4, r5⟩, hper, hvin, htape, hseen, hnight, hbook⟩ := id hrw
  have hcN : nat (mi 40 1) (cN c) := by rw [r2]; exact hN
  have hcW : nat (mi 40 2) (cW c) := by rw [r3]; exact hW
  clear I
  refine V_aload_n dX7_act_0 rfl ?_
  refine V_getr (b := 34) 7 5 dX7_act_1 (Or.inl lkX7_20) rfl rfl ⟨by omega, by omega⟩ (hR _ _ _ rfl) ?_
  refine V_iconst (v := 0) dX7_act_4 rfl ?_
  refine V_puti 0 1 dX7_act_5 lnX7_250 rfl rfl rfl rfl ⟨by omega, by omega⟩ ?_
  refine V_aload_n dX7_act_8 rfl ?_
  refine V_iload_n dX7_act_9 rfl ?_
  refine V_callV (ci := 7) (qX7_isOne _ _ _ hR hn _) dX7_act_10 mlX7_105 mtX7_isOne ivX7_isOne rfl rfl ⟨by omega, by omega⟩ (by decide) rfl rfl (by decide) (Nat.le_of_ble_eq_true rfl) rfl rfl ?_
  rintro _ _ _ _ ⟨rfl, rfl, rfl, rfl⟩
  refine V_if_eq (tgt := 25) dX7_act_13 (by decide) (fun c13 => ?_) (fun c13 => ?_)
  · refine V_iconst (v := 0) dX7_act_25 rfl ?_
    refine V_iret dX7_act_26 rfl rfl ?_
    have hno : ¬ okAct (mi 174) p a := fun h => by
      first | exact absurd (by rw [up2_row (by decide), r2]; exact h.1) (b01_0.mp c13) | exact absurd h.2.1 (Int32.not_le.mpr c17) | exact c22 h.2.2
    refine ⟨?_, rfl, ?_, rfl⟩
    · unfold sAct
      rw [if_neg hno]
    · unfold cAct
      rw [sActL_no hno]
      rfl
  · refine V_iload_n dX7_act_16 rfl ?_
    refine V_if_lt (tgt := 25) dX7_act_17 (by decide) (fun c17 => ?_) (fun c17 => ?_)
    · refine V_iconst (v := 0) dX7_act_25 rfl ?_
      refine V_iret dX7_act_26 rfl rfl ?_
      have hno : ¬ okAct (mi 174) p a := fun h => by
        first | exact absurd (by rw [up2_row (by decide), r2]; exact h.1) (b01_0.mp c13) | exact absurd h.2.1 (Int32.not_le.mpr c17) | exact c22 h.2.2
      refine ⟨?_, rfl, ?_, rfl⟩
      · unfold sAct
        rw [if_neg hno]
      · unfold cAct
        rw [sActL_no hno]
        rfl
    · refine V_iload_n dX7_act_20 rfl ?_
      refine V_iconst (v := 2) dX7_act_21 rfl ?_
      refine V_icmp_le (tgt := 27) dX7_act_22 (by decide) (fun c22 => ?_) (fun c22 => ?_)
      · have hpo : 0 ≤ p ∧ p < mi 174 12 := by
          have q := b01_n.mp c13
          rw [up2_row (by decide), r2] at q
          exact q
        obtain ⟨b, hb1, hb2⟩ := idxC (b01_n.mpr hpo) hN
        obtain ⟨ka, ka1, ka2⟩ := idx2 (Int32.not_lt.mp c17) c22
        obtain ⟨q1, q2, q3, q4, -⟩ := hper b hb2
        obtain ⟨kd, kd1, kd2⟩ := (hBD.2.2.2.1 b hb2).1
        have hnum9 := hnum b (by omega)
        rw [show (40 + 18 : Nat) = 58 from rfl] at q1 q2 hnum9
        refine V_aload_n dX7_act_27 rfl ?_
        refine V_getr (b := 40) 7 1 dX7_act_28 (Or.inl lkX7_30) rfl rfl ⟨by omega, by omega⟩ (hR _ _ _ rfl) ?_
        refine V_getr (b := 41) 6 6 dX7_act_31 lnX7_85 rfl rfl ⟨by omega, by omega⟩ (hR _ _ _ rfl) ?_
        refine V_iload_n dX7_act_34 rfl ?_
        refine V_aald (len := 6) (b := (58 + 2 * b)) 5 b dX7_act_35 rfl rfl ⟨by omega, by omega⟩ hb1 (by omega) (hR _ _ _ (rFolk (Or.inl rfl) (by omega))) ?_
        refine V_astore (L' := [_, _, _, _, _]) dX7_act_36 (by decide) rfl rfl ?_
        refine V_aload_n dX7_act_38 rfl ?_
        refine V_getr (b := 34) 7 5 dX7_act_39 (Or.inl lkX7_20) rfl rfl ⟨by omega, by omega⟩ (hR _ _ _ rfl) ?_
        refine V_aload dX7_act_42 rfl ?_
        refine V_iload_n dX7_act_44 rfl ?_
        refine V_aload dX7_act_45 rfl ?_
        refine V_geti 1 1 dX7_act_47 lnX7_108 rfl (sP (pOf (Or.inl rfl) (by omega))) ⟨by omega, by omega⟩ ?_
        rw [up2_row (by omega), q1, nI_of_toInt kd1]
        refine V_iload_n dX7_act_50 rfl ?_
        refine V_iconst (v := 0) dX7_act_51 rfl ?_
        refine V_callVN (ci := 0) (qX0_perform n _ mr hR hn _ (pOf (Or.inl rfl) (by omega)) kd ka kd2 ka2 _ _ p (mi 174 (26 + b)) ka1 (up2_s) (by unfold whoC; rw [up2_row (by omega)]; exact ⟨by rw [hnum9, nI_of_toInt hb1], by rw [q1, nI_of_toInt kd1], q2⟩)) dX7_act_52 mnX7_253 mtX0_perform ivX0_perform rfl rfl ⟨by omega, by omega⟩ (by decide) rfl rfl (by decide) (Nat.le_of_ble_eq_true rfl) rfl rfl ?_
        rintro _ _ _ _ ⟨rfl, rfl, rfl, rfl⟩
        refine V_iret dX7_act_55 rfl rfl ?_
        have hok : okAct (mi 174) p a := ⟨hpo, Int32.not_lt.mp c17, c22⟩
        refine ⟨?_, rfl, ?_, rfl⟩
        · unfold sAct
          rw [if_pos hok, nat_of_toInt ka1, nat_of_toInt hb1]
          unfold kdS
          rw [nat_of_toInt hb1, nat_of_toInt kd1]
        · unfold cAct sActL
          rw [if_pos hok, nat_of_toInt ka1]
          unfold kdS
          rw [nat_of_toInt hb1, nat_of_toInt kd1]
      · refine V_iconst (v := 0) dX7_act_25 rfl ?_
        refine V_iret dX7_act_26 rfl rfl ?_
        have hno : ¬ okAct (mi 174) p a := fun h => by
          first | exact absurd (by rw [up2_row (by decide), r2]; exact h.1) (b01_0.mp c13) | exact absurd h.2.1 (Int32.not_le.mpr c17) | exact c22 h.2.2
        refine ⟨?_, rfl, ?_, rfl⟩
        · unfold sAct
          rw [if_neg hno]
        · unfold cAct
          rw [sActL_no hno]
          rfl
set_option maxRecDepth 4000 in
theorem qX8_act (n : Nat) (mi : MI) (mr : MR) (c : CT) (hR : RF mr) (hn : 186 ≤ n) (hBD : BD (mi 174) c) (p a x : Int32) : Ct KX8_act 8 0 0 [.ref 173, .int p, .int a, .int x] n mi mr (eqQ (some (.int (sAct (mi 174) p a x))) n (mAct mi p a) mr) := by
  refine Ct.of2 [some (.ref 173), some (.int p), some (.int a), some (.int x)] (by decide +kernel) (Nat.le_of_ble_eq_true rfl) rfl ?_
  obtain ⟨⟨hN, hN6⟩, ⟨hW, hW5⟩, ⟨hL, hL5⟩, ⟨hT, hT100⟩, ⟨hS, hS5⟩, ⟨hP, hP8⟩, ⟨hBk, hB8⟩⟩ := hBD.1
  refine V_aload_n dX8_act_0 rfl ?_
  refine V_iconst (v := 0) dX8_act_1 rfl ?_
  refine V_puti 8 25 dX8_act_2 (Or.inl lkX8_271) rfl rfl rfl rfl ⟨by omega, by omega⟩ ?_
  refine V_aload_n dX8_act_5 rfl ?_
  refine V_iload_n dX8_act_6 rfl ?_
  refine V_callV (ci := 8) (qX8_isPerson _ _ _ hR hn _) dX8_act_7 mlX8_169 mtX8_isPerson ivX8_isPerson rfl rfl ⟨by omega, by omega⟩ (by decide) rfl rfl (by decide) (Nat.le_of_ble_eq_true rfl) rfl rfl ?_
  rintro _ _ _ _ ⟨rfl, rfl, rfl, rfl⟩
  rw [up2_row (b := 174) (by decide)]
  simp only [leSub hN (by omega)]
  refine V_if_eq (tgt := 22) dX8_act_10 (by decide) (fun c10 => ?_) (fun c10 => ?_)
  · refine V_iconst (v := 0) dX8_act_22 rfl ?_
    refine V_iret dX8_act_23 rfl rfl ?_
    have hno : ¬ okAct (mi 174) p a := fun h => by
      first | exact absurd h.1 (b01_0.mp c10) | exact absurd h.2 (b01_0.mp c19)
    refine ⟨?_, rfl, ?_, rfl⟩
    · unfold sAct
      rw [if_neg hno]
    · unfold mAct
      rw [if_neg hno]
  · refine V_iload_n dX8_act_13 rfl ?_
    refine V_iconst (v := 0) dX8_act_14 rfl ?_
    refine V_iconst (v := 2) dX8_act_15 rfl ?_
    refine V_callS (qX8_in _ _ _ _ _ _) dX8_act_16 mlX8_53 mtX8_in smX8_in rfl rfl (by decide) (Nat.le_of_ble_eq_true rfl) rfl rfl ?_
    rintro _ _ _ _ ⟨rfl, rfl, rfl, rfl⟩
    refine V_if_ne (tgt := 24) dX8_act_19 (by decide) (fun c19 => ?_) (fun c19 => ?_)
    · have hpo := b01_n.mp c10
      have hao := b01_n.mp c19
      obtain ⟨b, hb1, hb2⟩ := idxC (b01_n.mpr hpo) hN
      obtain ⟨ka, ka1, ka2⟩ := idx2 hao.1 hao.2
      obtain ⟨kd, kd1, kd2⟩ := (hBD.2.2.2.1 b hb2).1
      have hok : okAct (mi 174) p a := ⟨hpo, hao⟩
      have hs0 : mAct mi p a = lgT 173 25 185 (up2 (up2 (up2 (up2 mi 173 25 0) 173 26 (mi 174 (20 + b))) 173 27 p) 173 28 (mi 174 (26 + b))) 0 (actL ka kd) := by
        unfold mAct sActL
        rw [if_pos hok, if_pos hok, nat_of_toInt hb1, nat_of_toInt ka1]
        unfold kdS
        rw [nat_of_toInt hb1, nat_of_toInt kd1]
      have hs1 : sAct (mi 174) p a x = actV ka p (mi 174 (26 + b)) kd x := by
        unfold sAct
        rw [if_pos hok, nat_of_toInt hb1, nat_of_toInt ka1]
        unfold kdS
        rw [nat_of_toInt hb1, nat_of_toInt kd1]
      have hw9 : whoM (up2 (up2 (up2 (up2 mi 173 25 0) 173 26 (mi 174 (20 + b))) 173 27 p) 173 28 (mi 174 (26 + b))) p kd (mi 174 (26 + b)) := by
        unfold whoM
        simp only [up2]
        simp
        exact nI_of_toInt kd1
      have hr9 : up2 (up2 (up2 (up2 mi 173 25 0) 173 26 (mi 174 (20 + b))) 173 27 p) 173 28 (mi 174 (26 + b)) 173 25 = nI 0 := by simp [up2]; rfl
      rw [hs0, hs1]
      refine V_aload_n dX8_act_24 rfl ?_
      refine V_aload_n dX8_act_25 rfl ?_
      refine V_getr (b := 174) 8 1 dX8_act_26 (Or.inl lkX8_9) rfl rfl ⟨by omega, by omega⟩ (hR _ _ _ rfl) ?_
      refine V_bipush (v := 20) dX8_act_29 rfl ?_
      refine V_iload_n dX8_act_31 rfl ?_
      refine V_iadd dX8_act_32 ?_
      refine V_iald (len := 938) (20 + b) dX8_act_33 rfl ⟨by omega, by omega⟩ (ix_add (by decide) hb1 (by omega)) (by omega) ?_
      rw [up2_row (by decide)]
      refine V_puti 8 26 dX8_act_34 (Or.inl lkX8_280) rfl rfl rfl rfl ⟨by omega, by omega⟩ ?_
      refine V_aload_n dX8_act_37 rfl ?_
      refine V_iload_n dX8_act_38 rfl ?_
      refine V_puti 8 27 dX8_act_39 (Or.inl lkX8_277) rfl rfl rfl rfl ⟨by omega, by omega⟩ ?_
      refine V_aload_n dX8_act_42 rfl ?_
      refine V_aload_n dX8_act_43 rfl ?_
      refine V_getr (b := 174) 8 1 dX8_act_44 (Or.inl lkX8_9) rfl rfl ⟨by omega, by omega⟩ (hR _ _ _ rfl) ?_
      refine V_bipush (v := 26) dX8_act_47 rfl ?_
      refine V_iload_n dX8_act_49 rfl ?_
      refine V_iadd dX8_act_50 ?_
      refine V_iald (len := 938) (26 + b) dX8_act_51 rfl ⟨by omega, by omega⟩ (ix_add (by decide) hb1 (by omega)) (by omega) ?_
      rw [up2_row (by decide), up2_row (by decide), up2_row (by decide)]
      refine V_puti 8 28 dX8_act_52 (Or.inl lkX8_292) rfl rfl rfl rfl ⟨by omega, by omega⟩ ?_
      refine V_iload_n dX8_act_55 rfl ?_
      refine V_if_ne (tgt := 67) dX8_act_56 (by decide) (fun c56 => ?_) (fun c56 => ?_)
      · refine V_iload_n dX8_act_67 rfl ?_
        refine V_iconst (v := 1) dX8_act_68 rfl ?_
        refine V_icmp_ne (tgt := 80) dX8_act_69 (by decide) (fun c69 => ?_) (fun c69 => ?_)
        · refine V_aload_n dX8_act_80 rfl ?_
          refine V_iload_n dX8_act_81 rfl ?_
          refine V_callV (ci := 8) (qX8_tellsActs n _ mr hR hn kd 0 kd2 _ p (mi 174 (26 + b)) hr9 (by omega) hw9) dX8_act_82 mlX8_304 mtX8_tellsActs ivX8_tellsActs rfl rfl ⟨by omega, by omega⟩ (by decide) rfl rfl (by decide) (Nat.le_of_ble_eq_true rfl) rfl rfl ?_
          rintro _ _ _ _ ⟨rfl, rfl, rfl, rfl⟩
          refine V_iret dX8_act_85 rfl rfl ?_
          first
            | (have e : ka = 0 := (eq_nat ka1 (y := 0) (b := 0) rfl).mp c56
               subst e
               exact ⟨rfl, rfl, rfl, rfl⟩)
            | (have e : ka = 1 := (eq_nat ka1 (y := 1) (b := 1) rfl).mp c69
               subst e
               exact ⟨rfl, rfl, rfl, rfl⟩)
            | (have e : ka = 2 := by
                 have g0 : ¬ ka = 0 := fun e => c56 ((eq_nat ka1 (y := 0) (b := 0) rfl).mpr e)
                 have g1 : ¬ ka = 1 := fun e => c69 ((eq_nat ka1 (y := 1) (b := 1) rfl).mpr e)
                 omega
               subst e
               exact ⟨rfl, rfl, rfl, rfl⟩)
        · refine V_aload_n dX8_act_72 rfl ?_
          refine V_iload_n dX8_act_73 rfl ?_
          refine V_callV (ci := 8) (qX8_agesActs n _ mr hR hn kd 0 kd2 _ p (mi 174 (26 + b)) hr9 (by omega) hw9) dX8_act_74 mlX8_298 mtX8_agesActs ivX8_agesActs rfl rfl ⟨by omega, by omega⟩ (by decide) rfl rfl (by decide) (Nat.le_of_ble_eq_true rfl) rfl rfl ?_
          rintro _ _ _ _ ⟨rfl, rfl, rfl, rfl⟩
          refine V_goto (tgt := 85) dX8_act_77 (by decide) ?_
          refine V_iret dX8_act_85 rfl rfl ?_
          first
            | (have e : ka = 0 := (eq_nat ka1 (y := 0) (b := 0) rfl).mp c56
               subst e
               exact ⟨rfl, rfl, rfl, rfl⟩)
            | (have e : ka = 1 := (eq_nat ka1 (y := 1) (b := 1) rfl).mp c69
               subst e
               exact ⟨rfl, rfl, rfl, rfl⟩)
            | (have e : ka = 2 := by
                 have g0 : ¬ ka = 0 := fun e => c56 ((eq_nat ka1 (y := 0) (b := 0) rfl).mpr e)
                 have g1 : ¬ ka = 1 := fun e => c69 ((eq_nat ka1 (y := 1) (b := 1) rfl).mpr e)
                 omega
               subst e
               exact ⟨rfl, rfl, rfl, rfl⟩)
      · refine V_aload_n dX8_act_59 rfl ?_
        refine V_iload_n dX8_act_60 rfl ?_
        refine V_callV (ci := 8) (qX8_drinksActs n _ mr hR hn kd 0 kd2 _ p (mi 174 (26 + b)) hr9 (by omega) hw9) dX8_act_61 mlX8_289 mtX8_drinksActs ivX8_drinksActs rfl rfl ⟨by omega, by omega⟩ (by decide) rfl rfl (by decide) (Nat.le_of_ble_eq_true rfl) rfl rfl ?_
        rintro _ _ _ _ ⟨rfl, rfl, rfl, rfl⟩
        refine V_goto (tgt := 85) dX8_act_64 (by decide) ?_
        refine V_iret dX8_act_85 rfl rfl ?_
        first
          | (have e : ka = 0 := (eq_nat ka1 (y := 0) (b := 0) rfl).mp c56
             subst e
             exact ⟨rfl, rfl, rfl, rfl⟩)
          | (have e : ka = 1 := (eq_nat ka1 (y := 1) (b := 1) rfl).mp c69
             subst e
             exact ⟨rfl, rfl, rfl, rfl⟩)
          | (have e : ka = 2 := by
               have g0 : ¬ ka = 0 := fun e => c56 ((eq_nat ka1 (y := 0) (b := 0) rfl).mpr e)
               have g1 : ¬ ka = 1 := fun e => c69 ((eq_nat ka1 (y := 1) (b := 1) rfl).mpr e)
               omega
             subst e
             exact ⟨rfl, rfl, rfl, rfl⟩)
    · refine V_iconst (v := 0) dX8_act_22 rfl ?_
      refine V_iret dX8_act_23 rfl rfl ?_
      have hno : ¬ okAct (mi 174) p a := fun h => by
        first | exact absurd h.1 (b01_0.mp c10) | exact absurd h.2 (b01_0.mp c19)
      refine ⟨?_, rfl, ?_, rfl⟩
      · unfold sAct
        rw [if_neg hno]
      · unfold mAct
        rw [if_neg hno]
