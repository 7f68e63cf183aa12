theorem PT.kind {c : CT} {a k j : Nat} (hN : cN c ≤ 6) (hp : PT c a k j) : (a = 0 ∧ k = 0 ∧ j = 0) ∨ (∃ p, p < cN c ∧ a = 18 + 2 * p ∧ k = 5 ∧ j = 1 + p) ∨ (∃ v, v < cW c ∧ a = 3 ∧ k = v ∧ j = 7 + v) ∨ (12 ≤ j ∧ ¬ (a = 0 ∧ k = 0) ∧ a ≠ 3 ∧ ∀ p, ¬ (a = 18 + 2 * p ∧ k = 5)) := by
  unfold PT at hp
  rcases hp with ⟨e1, hp⟩ | ⟨g1, g2, g3, hp⟩ | ⟨g1, g2, g3, g4, hp⟩ | ⟨e1, g1, hp⟩ | ⟨e1, g1, hp⟩ | ⟨e1, g1, hp⟩ | ⟨e1, g1, hp⟩ | ⟨e1, g1, hp⟩ | ⟨e1, g1, hp⟩ | ⟨e1, g1, hp⟩ | ⟨e1, g1, hp⟩ | ⟨e1, g1, hp⟩ | ⟨e1, g1, hp⟩ | ⟨e1, g1, hp⟩ | ⟨e1, g1, hp⟩ | ⟨e1, g1, hp⟩
  · rcases hp with ⟨h1, h2⟩ | ⟨h1, h2⟩ | ⟨h1, h2⟩ | ⟨h1, h2⟩ | ⟨h1, h2⟩
    · exact Or.inl ⟨e1, h1, h2⟩
    all_goals exact Or.inr (Or.inr (Or.inr ⟨by omega, by omega, by omega, fun p => by omega⟩))
  · rcases hp with ⟨h1, h2⟩ | ⟨h1, h2⟩ | ⟨h1, h2⟩ | ⟨h1, h2⟩ | ⟨h1, h2⟩
    case inr.inr.inr.inr => exact Or.inr (Or.inl ⟨(a - 18) / 2, by omega, by omega, h1, h2⟩)
    all_goals exact Or.inr (Or.inr (Or.inr ⟨by omega, by omega, by omega, fun p => by omega⟩))
  · exact Or.inr (Or.inr (Or.inr ⟨by omega, by omega, by omega, fun p => by omega⟩))
  · exact Or.inr (Or.inr (Or.inr ⟨by omega, by omega, by omega, fun p => by omega⟩))
  · exact Or.inr (Or.inr (Or.inl ⟨k, g1, e1, rfl, hp⟩))
  all_goals exact Or.inr (Or.inr (Or.inr ⟨by omega, by omega, by omega, fun p => by omega⟩))
theorem RW.put {S : Nat → Int32} {c : CT} {m : MI} {w a0 k0 j0 : Nat} {x : Int32} (h : RW S c m w) (hit : ∀ a k j, PT c a k j → ((a = a0 ∧ k = k0) ↔ j = j0)) : RW (upS S j0 x) c (up2 m (w + a0) k0 x) w := by
  refine RW.mk (fun a k j hp => ?_)
  simp only [up2, upS]
  by_cases e : j = j0
  · obtain ⟨e1, e2⟩ := (hit a k j hp).mpr e
    rw [if_pos e, if_pos ⟨by rw [e1], e2⟩]
  · rw [if_neg e, if_neg (fun q => e ((hit a k j hp).mp ⟨by omega, q.2⟩))]
    exact h.to a k j hp
theorem RW.putHas {S : Nat → Int32} {c : CT} {m : MI} {w p : Nat} {x : Int32} (h : RW S c m w) (hN : cN c ≤ 6) (hW : cW c ≤ 5) (hp : p < 6) : RW (upS S (1 + p) x) c (up2 m (w + 18 + 2 * p) 5 x) w := by
  rw [show w + 18 + 2 * p = w + (18 + 2 * p) by omega]
  refine h.put (fun a k j hq => ?_)
  rcases PT.kind hN hq with ⟨h1, h2, h3⟩ | ⟨p2, h0, h1, h2, h3⟩ | ⟨v, h0, h1, h2, h3⟩ | ⟨h1, h2, h3, h4⟩
  · constructor <;> (intro; omega)
  · constructor <;> (intro; omega)
  · constructor <;> (intro; omega)
  · exact ⟨fun q => absurd q (h4 p), fun q => absurd q (by omega)⟩
theorem RW.putBot {S : Nat → Int32} {c : CT} {m : MI} {w v : Nat} {x : Int32} (h : RW S c m w) (hN : cN c ≤ 6) (hW : cW c ≤ 5) (hv : v < 5) : RW (upS S (7 + v) x) c (up2 m (w + 3) v x) w := by
  refine h.put (fun a k j hq => ?_)
  rcases PT.kind hN hq with ⟨h1, h2, h3⟩ | ⟨p2, h0, h1, h2, h3⟩ | ⟨v2, h0, h1, h2, h3⟩ | ⟨h1, h2, h3, h4⟩
  · constructor <;> (intro; omega)
  · constructor <;> (intro; omega)
  · constructor <;> (intro; omega)
  · constructor <;> (intro; omega)
theorem RW.dawn {S : Nat → Int32} {c : CT} {m : MI} {w : Nat} {x : Int32} (h : RW S c m w) (hN : cN c ≤ 6) (hW : cW c ≤ 5) : RW (dawnS S (cN c)) c (dryTo (up2 m w 0 (m w 0 + 1)) w (cN c)) w := by
  refine RW.mk (fun a k j hp => ?_)
  have h0 := h.to a k j hp
  unfold dawnS
  rcases PT.kind hN hp with ⟨rfl, rfl, rfl⟩ | ⟨p, p1, rfl, rfl, rfl⟩ | ⟨v, v1, rfl, rfl, rfl⟩ | ⟨h1, h2, h3, h4⟩
  · rw [if_pos rfl, dryTo_off (fun p hp => by omega)]
    show up2 m w 0 (m w 0 + 1) w 0 = _
    rw [up2_s]
    exact congrArg (· + 1) h0
  · rw [if_neg (by omega), if_pos (by omega), show w + (18 + 2 * p) = w + 18 + 2 * p by omega]
    exact dryTo_has p1
  · rw [if_neg (by omega), if_neg (by omega), dryTo_off (fun p hp => by omega)]
    simp only [up2]
    rw [if_neg (by omega)]
    exact h0
  · rw [if_neg (by omega), if_neg (by omega), dryTo_off (fun p hp q => h4 p ⟨by omega, q.2⟩)]
    simp only [up2]
    rw [if_neg (fun q => h2 ⟨by omega, q.2⟩)]
    exact h0
theorem Keep.dry {w N : Nat} {mi m : MI} (h : Keep w mi m) (hN : N ≤ 6) : Keep w mi (dryTo m w N) := fun b hb j => (dryTo_off (fun p hp => by omega)).trans (h b hb j)
theorem Keep.rf {w : Nat} {mi : MI} : Keep w mi mi := fun _ _ _ => rfl
theorem live_all {S : Nat → Int32} {c : CT} {m : MI} {w : Nat} (hB : BD S c) (h : RW S c m w) : ∀ {j : Nat}, j ≤ cP c → RW (nightS S (cN c) j) c (liveTo m w (cN c) j) w ∧ Keep w m (liveTo m w (cN c) j)
  | 0, _ => ⟨h, Keep.rf⟩
  | j + 1, hj => by
    obtain ⟨h1, h2⟩ := live_all hB h (j := j) (by omega)
    have hN := hB.1.1.2
    have hW := hB.1.2.1.2
    show RW (doS (nightS S (cN c) j) S (cN c) j) c (nStep (liveTo m w (cN c) j) m w (cN c) j) w ∧ Keep w m (nStep (liveTo m w (cN c) j) m w (cN c) j)
    generalize liveTo m w (cN c) j = q at h1 h2
    generalize nightS S (cN c) j = S1 at h1
    have n1 := h.to _ _ _ (PT.night (c := c) (k := j) (by omega)).1
    have n2 := h.to _ _ _ (PT.night (c := c) (k := j) (by omega)).2.1
    have n3 := h.to _ _ _ (PT.night (c := c) (k := j) (by omega)).2.2
    unfold nStep doS
    rw [n1, n2, n3]
    rcases plan_cases hB.y (j := j) (by omega) with e | ⟨e, p, p1, p2, e1 | ⟨e1, v, v1, v2⟩⟩
    · rw [if_pos e, if_pos e]
      exact ⟨h1.dawn (x := 0) hN hW, (h2.up ⟨by omega, by omega⟩).dry hN⟩
    · rw [if_neg e, if_neg e, if_neg e1, if_neg e1, nat_of_toInt p1]
      exact ⟨h1.putHas hN hW (by omega), h2.up ⟨by omega, by omega⟩⟩
    · rw [if_neg e, if_neg e, if_pos e1, if_pos e1, nat_of_toInt p1, nat_of_toInt v1]
      have g := h1.to _ _ _ (PT.vin (c := c) (k := v) v2).2
      rw [g]
      by_cases hz : S1 (7 + v) = 0
      · rw [if_pos hz, if_pos hz]
        exact ⟨h1, h2⟩
      · rw [if_neg hz, if_neg hz]
        exact ⟨(h1.putBot hN hW (by omega)).putHas hN hW (by omega), (h2.up ⟨by omega, by omega⟩).up ⟨by omega, by omega⟩⟩
theorem RW.copy {S : Nat → Int32} {c : CT} {mi m : MI} {w u : Nat} (h : RW S c mi u) (hW : cW c ≤ 5) (hT : cT c ≤ 100) (hc : copyW mi m w u (cN c) (cS c) (cP c) (cB c)) : RW S c m w := by
  obtain ⟨⟨r1, r2, r3, r4, r5⟩, hper, hvin, htape, ⟨s1, s2⟩, ⟨n1, n2⟩, ⟨b1, b2⟩⟩ := h
  obtain ⟨c1, c2, c3, c4, ⟨c5, c5'⟩, ⟨c6, c6'⟩, ⟨c7, c7'⟩⟩ := hc
  refine ⟨⟨(c1 0 (by decide)).trans r1, (c1 1 (by decide)).trans r2, (c1 2 (by decide)).trans r3, (c1 3 (by decide)).trans r4, (c1 4 (by decide)).trans r5⟩, fun p hp => ?_, fun k hk => ?_, fun j hj => (c4 j (by omega)).trans (htape j hj), ⟨c5.trans s1, fun j hj => ?_⟩, ⟨c6.trans n1, fun j hj => ?_⟩, ⟨c7.trans b1, fun j hj => ?_⟩⟩
  · obtain ⟨p1, p2, p3, p4, p5, p6⟩ := hper p hp
    obtain ⟨q1, q2, q3, q4, q5, q6⟩ := c2 p hp
    exact ⟨q1.trans p1, q2.trans p2, q3.trans p3, q4.trans p4, q5.trans p5, fun k hk => (q6 k hk).trans (p6 k hk)⟩
  · exact ⟨(c3 k (by omega)).1.trans (hvin k hk).1, (c3 k (by omega)).2.trans (hvin k hk).2⟩
  · exact ⟨(c5' j hj).2.1.trans (s2 j hj).1, (c5' j hj).2.2.trans (s2 j hj).2⟩
  · exact ⟨(c6' j hj).1.trans (n2 j hj).1, (c6' j hj).2.1.trans (n2 j hj).2.1, (c6' j hj).2.2.trans (n2 j hj).2.2⟩
  · exact ⟨(c7' j hj).2.1.trans (b2 j hj).1, (c7' j hj).2.2.trans (b2 j hj).2⟩
theorem RW.nightOK {S : Nat → Int32} {c : CT} {m : MI} {w : Nat} (hB : BD S c) (h : RW S c m w) : nightOK m w (cN c) (cW c) (cP c) := by
  intro j hj
  have n1 := h.to _ _ _ (PT.night (c := c) (k := j) hj).1
  have n2 := h.to _ _ _ (PT.night (c := c) (k := j) hj).2.1
  have n3 := h.to _ _ _ (PT.night (c := c) (k := j) hj).2.2
  rw [n1, n2, n3]
  exact hB.2.2.2.2.2.2.1 j hj
theorem tells_hi {S S' : Nat → Int32} (h : ∀ k, 12 ≤ k → S' k = S k) {k : Nat} {x : Int32} (hk : 12 ≤ k) : sTells S' k x = sTells S k x := by
  unfold sTells
  rw [h 18 (by decide), h _ (by omega)]
theorem MV.hi {S S' : Nat → Int32} {nc : Nat} {e : Nat → Nat} {s nv : Nat → Int32} {b : Nat} (h : MV S nc e s nv b) (hs : ∀ k, 12 ≤ k → S' k = S k) (hb : 12 ≤ b) : MV S' nc e s nv b := by
  obtain ⟨h1, h2, h3, h4, h5⟩ := h
  refine ⟨?_, ?_, h3, h4, fun k hk => ?_⟩
  · rw [tells_hi hs (by decide)]
    exact h1
  · rw [hs 18 (by decide)]
    exact h2
  · obtain ⟨k1, k2, k3, k4, k5, k6⟩ := h5 k hk
    refine ⟨k1, k2, k3, fun j j1 j2 => ?_, ?_, k6⟩
    · rw [hs _ (by omega)]
      exact k4 j j1 j2
    · rw [hs _ (by omega)]
      exact k5
theorem VOK.row {mi mi' : MI} {a nc : Nat} {e : Nat → Nat} (h : VOK mi a nc e) (h0 : mi' a = mi a) (h1 : mi' (a + 1) = mi (a + 1)) (h3 : mi' (a + 3) = mi (a + 3)) : VOK mi' a nc e := h.off h0 h1 h3
noncomputable def sDone (S : Nat → Int32) (c : CT) (nc : Nat) (e : Nat → Nat) (s nv : Nat → Int32) (x : Int32) : Int32 := if 0 ≤ x ∧ x ≤ 1 then (if x = 0 then nI (cntB (sHere (nightS S (cN c) (cP c))) (cN c)) else sAllNerve (nightS S (cN c) (cP c)) nc e s nv (cN c)) else -1
def trQ (r : Option Value) (n : Nat) (mi : MI) (mr : MR) (hv : Nat) : QT := fun r' n' mi' mr' => r = r' ∧ n = n' ∧ Off scrC mi mi' ∧ (mr' = mr ∨ mr' = up2 mr 100 5 (some hv))
theorem keep_scr {mi m : MI} (h : Keep 100 mi m) : Off scrC mi m := fun a k ha => h a (by unfold scrC at ha; omega) k
theorem MV_b {S : Nat → Int32} {nc : Nat} {e : Nat → Nat} {s nv : Nat → Int32} {b : Nat} (h : MV S nc e s nv b) (hh : hasIn (S 18) 5) : 12 ≤ b := by
  have h2 := h.2.1
  unfold nat at h2
  rcases hh with h3 | ⟨k, k1, k2⟩
  · rw [h3] at h2
    have q : (238 + 140 * (-1 : Int32)).toInt = 98 := by decide
    omega
  · rw [ix_add (a := 238) (b := 140 * k) rfl (ix_mul (a := 140) (b := k) rfl k1 (by omega)) (by omega)] at h2
    omega
set_option maxRecDepth 4000 in
theorem qX7_done (n : Nat) (mi : MI) (mr : MR) (c : CT) (I : INV n mi mr c) (nc : Nat) (e : Nat → Nat) (hO : VOK mi (hvOf (mi 174)) nc e) (x : Int32) : Ct KX7_done 9 0 0 [.ref 32, .int x] n mi mr (trQ (some (.int (sDone (mi 174) c nc e (mi (hvOf (mi 174) + 1)) (mi (hvOf (mi 174) + 2)) x))) n mi mr (hvOf (mi 174))) := by
  refine Ct.of2 [some (.ref 32), some (.int x)] (by decide +kernel) (Nat.le_of_ble_eq_true rfl) rfl ?_
  have hhv := I.hv
  have hcl := I.cl.1
  have hisV := I.2.2.1.isV
  have hvl := hisV.le
  have hvl2 := hisV.le2
  have hch := I.ch
  obtain ⟨hR, hn, ⟨⟨hN, hN6⟩, ⟨hW, hW5⟩, ⟨hL, hL5⟩, ⟨hT, hT100⟩, ⟨hS, hS5⟩, ⟨hP, hP8⟩, ⟨hBk, hB8⟩⟩, hrw⟩ := I.facts
  have hBD := I.2.2.1
  obtain ⟨⟨r1, r2, r3, r4, r5⟩, hper, hvin, htape, hseen, hnight, hbook⟩ := id hrw
  have hcN : nat (mi 40 1) (cN c) := by rw [r2]; exact hN
  have hcW : nat (mi 40 2) (cW c) := by rw [r3]; exact hW
  clear I
  refine V_iload_n dX7_done_0 rfl ?_
  refine V_if_lt (tgt := 9) dX7_done_1 (by decide) (fun c1 => ?_) (fun c1 => ?_)
  · refine V_iconst (v := -1) dX7_done_9 rfl ?_
    refine V_iret dX7_done_10 rfl rfl ?_
    refine ⟨?_, rfl, Off.rf, Or.inl rfl⟩
    unfold sDone
    rw [if_neg]
    rintro ⟨h1, h2⟩
    first | exact absurd h1 (Int32.not_le.mpr c1) | exact c6 h2
  · refine V_iload_n dX7_done_4 rfl ?_
    refine V_iconst (v := 1) dX7_done_5 rfl ?_
    refine V_icmp_le (tgt := 11) dX7_done_6 (by decide) (fun c6 => ?_) (fun c6 => ?_)
    · refine V_aload_n dX7_done_11 rfl ?_
      refine V_getr (b := 100) 7 3 dX7_done_12 (Or.inl lkX7_37) rfl rfl ⟨by omega, by omega⟩ (hR _ _ _ rfl) ?_
      refine V_aload_n dX7_done_15 rfl ?_
      refine V_getr (b := 40) 7 1 dX7_done_16 (Or.inl lkX7_30) rfl rfl ⟨by omega, by omega⟩ (hR _ _ _ rfl) ?_
      refine V_callV (ci := 6) (qX6_become _ _ _ hR hn 100 (Or.inr (Or.inr rfl)) 40 (Or.inl rfl) (by decide) (hvOf (mi 174)) hcl (cN c) (cS c) (cP c) (cB c) hcN hN6 (by rw [hseen.1]; exact hS) hS5 (by rw [hnight.1]; exact hP) hP8 (by rw [hbook.1]; exact hBk) hB8 hch) dX7_done_19 mlX7_227 mtX6_become ivX6_become rfl rfl ⟨by omega, by omega⟩ (by decide) rfl rfl (by decide) (Nat.le_of_ble_eq_true rfl) rfl rfl ?_
      rintro _ _ m1 _ ⟨rfl, rfl, rfl, hk1, hcp, hkn, h17⟩
      have hR := hR.up2 (a := 100) (k := 5) (x := some (hvOf (mi 174))) (RTw5 (Or.inr (Or.inr rfl)))
      have hrw1 := hrw.copy hW5 hT100 hcp
      obtain ⟨hrw2, hk2⟩ := live_all hBD hrw1 (j := cP c) (Nat.le_refl _)
      have hb2 := nightS_bd hBD (j := cP c) (Nat.le_refl _)
      have hhi : ∀ k, 12 ≤ k → nightS (mi 174) (cN c) (cP c) k = mi 174 k := fun k hk => nightS_hi hBD.y hk (Nat.le_refl _)
      have hvrow : ∀ a, 36 ≤ a → a ≤ 39 ∨ 153 ≤ a → liveTo m1 100 (cN c) (cP c) a = mi a := fun a h1 h2 => funext fun k => (hk2 a (by omega) k).trans (hk1 a (by omega) k)
      have hr0 : liveTo m1 100 (cN c) (cP c) (hvOf (mi 174)) = mi (hvOf (mi 174)) := hvrow _ (by omega) (by omega)
      have hr1 : liveTo m1 100 (cN c) (cP c) (hvOf (mi 174) + 1) = mi (hvOf (mi 174) + 1) := hvrow _ (by omega) (by omega)
      have hr2 : liveTo m1 100 (cN c) (cP c) (hvOf (mi 174) + 2) = mi (hvOf (mi 174) + 2) := hvrow _ (by omega) (by omega)
      have hr3 : liveTo m1 100 (cN c) (cP c) (hvOf (mi 174) + 3) = mi (hvOf (mi 174) + 3) := hvrow _ (by omega) (by omega)
      have hhv2 : HV (nightS (mi 174) (cN c) (cP c)) (liveTo m1 100 (cN c) (cP c)) (hvOf (mi 174)) := by
        unfold HV
        rw [hr0, tells_hi hhi (by decide), tells_hi hhi (by decide)]
        exact hhv
      have hO2 : VOK (liveTo m1 100 (cN c) (cP c)) (hvOf (mi 174)) nc e := hO.row hr0 hr1 hr3
      have hsc : Off scrC mi (liveTo m1 100 (cN c) (cP c)) := (keep_scr hk1).tr (keep_scr hk2)
      have hN2 : (liveTo m1 100 (cN c) (cP c) 100 1).toInt = (cN c : Int) := by
        rw [hrw2.1.2.1, hhi 12 (by decide)]
        exact hN
      have hhas2 : ∀ p, p < cN c → okHas (liveTo m1 100 (cN c) (cP c) (100 + 18 + 2 * p) 5) := fun p hp => by
        rw [(hrw2.2.1 p hp).2.2.2.2.1]
        exact (hb2.2.2.2.1 p hp).2.2.2.2.1.ok hW5
      have hmr : up2 mr 100 5 (some (hvOf (mi 174))) 100 5 = some (hvOf (mi 174)) := up2_s
      refine V_aload_n dX7_done_22 rfl ?_
      refine V_getr (b := 100) 7 3 dX7_done_23 (Or.inl lkX7_37) rfl rfl ⟨by omega, by omega⟩ (hR _ _ _ rfl) ?_
      refine V_callV (ci := 6) (qX6_liveThroughNight _ _ _ hR hn 100 (Or.inr (Or.inr rfl)) (cN c) (by rw [hrw1.1.2.1]; exact hN) hN6 (cW c) (cP c) hW5 (by rw [hrw1.2.2.2.2.2.1.1]; exact hP) hP8 (hrw1.nightOK hBD)) dX7_done_26 mlX7_230 mtX6_liveThroughNight ivX6_liveThroughNight rfl rfl ⟨by omega, by omega⟩ (by decide) rfl rfl (by decide) (Nat.le_of_ble_eq_true rfl) rfl rfl ?_
      rintro _ _ _ _ ⟨rfl, rfl, rfl, rfl⟩
      refine V_iload_n dX7_done_29 rfl ?_
      refine V_if_ne (tgt := 46) dX7_done_30 (by decide) (fun c30 => ?_) (fun c30 => ?_)
      · refine V_aload_n dX7_done_46 rfl ?_
        refine V_getr (b := 100) 7 3 dX7_done_47 (Or.inl lkX7_37) rfl rfl ⟨by omega, by omega⟩ (hR _ _ _ rfl) ?_
        refine V_callV (ci := 6) (qX6_nerveOfAll _ _ _ hR hn 100 (Or.inr (Or.inr rfl)) (hvOf (mi 174)) hmr hisV nc e hO2 (cN c) hN2 hN6 hhas2) dX7_done_50 mlX7_162 mtX6_nerveOfAll ivX6_nerveOfAll rfl rfl ⟨by omega, by omega⟩ (by decide) rfl rfl (by decide) (Nat.le_of_ble_eq_true rfl) rfl rfl ?_
        rintro _ _ m3 _ ⟨rfl, rfl, rfl, ho3⟩
        rw [nerves_eq hb2 hrw2 hhv2, hr1, hr2]
        refine V_iret dX7_done_53 rfl rfl ?_
        first
          | (refine ⟨?_, rfl, hsc, Or.inr rfl⟩
             unfold sDone
             rw [if_pos (And.intro (Int32.not_lt.mp c1) c6), if_pos c30]
             done)
          | (refine ⟨?_, rfl, hsc.tr (ho3.mono (fun a k q => by unfold offF at q; unfold scrC; omega)), Or.inr rfl⟩
             unfold sDone
             rw [if_pos (And.intro (Int32.not_lt.mp c1) c6), if_neg c30]
             done)
      · refine V_aload_n dX7_done_33 rfl ?_
        refine V_getr (b := 100) 7 3 dX7_done_34 (Or.inl lkX7_37) rfl rfl ⟨by omega, by omega⟩ (hR _ _ _ rfl) ?_
        refine V_callV (ci := 6) (qX6_whoIsHere _ _ _ hR hn 100 (Or.inr (Or.inr rfl)) (hvOf (mi 174)) hmr hisV (cN c) hN2 hN6 hhas2) dX7_done_37 mlX7_158 mtX6_whoIsHere ivX6_whoIsHere rfl rfl ⟨by omega, by omega⟩ (by decide) rfl rfl (by decide) (Nat.le_of_ble_eq_true rfl) rfl rfl ?_
        rintro _ _ _ _ ⟨rfl, rfl, rfl, rfl⟩
        rw [bitsTo_eq (fun p hp => here_eqY hb2 hrw2 hp hhv2)]
        refine V_callS (qJ6_bitCount _ _ _ _ (bits_nat hN6)) dX7_done_40 mlX7_233 mtJ6_bitCount_0f7a4 smJ6_bitCount_0f7a4 rfl rfl (by decide) (Nat.le_of_ble_eq_true rfl) rfl rfl ?_
        rintro _ _ _ _ ⟨rfl, rfl, rfl, rfl⟩
        rw [bits_cnt hN6]
        refine V_goto (tgt := 53) dX7_done_43 (by decide) ?_
        refine V_iret dX7_done_53 rfl rfl ?_
        first
          | (refine ⟨?_, rfl, hsc, Or.inr rfl⟩
             unfold sDone
             rw [if_pos (And.intro (Int32.not_lt.mp c1) c6), if_pos c30]
             done)
          | (refine ⟨?_, rfl, hsc.tr (ho3.mono (fun a k q => by unfold offF at q; unfold scrC; omega)), Or.inr rfl⟩
             unfold sDone
             rw [if_pos (And.intro (Int32.not_lt.mp c1) c6), if_neg c30]
             done)
    · refine V_iconst (v := -1) dX7_done_9 rfl ?_
      refine V_iret dX7_done_10 rfl rfl ?_
      refine ⟨?_, rfl, Off.rf, Or.inl rfl⟩
      unfold sDone
      rw [if_neg]
      rintro ⟨h1, h2⟩
      first | exact absurd h1 (Int32.not_le.mpr c1) | exact c6 h2
set_option maxRecDepth 4000 in
theorem qX8_done (n : Nat) (mi : MI) (mr : MR) (c : CT) (hR : RF mr) (hn : 186 ≤ n) (hBD : BD (mi 174) c) (nc : Nat) (e : Nat → Nat) (s nv : Nat → Int32) (b : Nat) (hMV : MV (mi 174) nc e s nv b) (x : Int32) : Ct KX8_done 8 0 0 [.ref 173, .int x] n mi mr (offQ (some (.int (sDone (mi 174) c nc e s nv x))) n mi mr scrM) := by
  refine Ct.of2 [some (.ref 173), some (.int x), none] (by decide +kernel) (Nat.le_of_ble_eq_true rfl) rfl ?_
  have hb12 : 12 ≤ b := MV_b hMV (hBD.2.2.1.elim Or.inl (fun ⟨k, k1, k2⟩ => Or.inr ⟨k, k1, Nat.lt_of_lt_of_le k2 hBD.1.2.2.1.2⟩))
  obtain ⟨⟨hN, hN6⟩, ⟨hW, hW5⟩, ⟨hL, hL5⟩, ⟨hT, hT100⟩, ⟨hS, hS5⟩, ⟨hP, hP8⟩, ⟨hBk, hB8⟩⟩ := hBD.1
  refine V_iload_n dX8_done_0 rfl ?_
  refine V_iconst (v := 0) dX8_done_1 rfl ?_
  refine V_iconst (v := 1) dX8_done_2 rfl ?_
  refine V_callS (qX8_in _ _ _ _ _ _) dX8_done_3 mlX8_53 mtX8_in smX8_in rfl rfl (by decide) (Nat.le_of_ble_eq_true rfl) rfl rfl ?_
  rintro _ _ _ _ ⟨rfl, rfl, rfl, rfl⟩
  refine V_if_ne (tgt := 11) dX8_done_6 (by decide) (fun c6 => ?_) (fun c6 => ?_)
  · refine V_aload_n dX8_done_11 rfl ?_
    refine V_callV (ci := 8) (qX8_keeps _ _ _ hR hn) dX8_done_12 mlX8_194 mtX8_keeps ivX8_keeps rfl rfl ⟨by omega, by omega⟩ (by decide) rfl rfl (by decide) (Nat.le_of_ble_eq_true rfl) rfl rfl ?_
    rintro _ _ _ _ ⟨rfl, rfl, rfl, rfl⟩
    refine V_iconst (v := 0) dX8_done_15 rfl ?_
    refine V_istore_n (L' := [_, _, _]) dX8_done_16 (by decide) rfl rfl ?_
    have loop : ∀ (m i : Nat) (m2 : MI) (y : Int32), i + m = cP c → y.toInt = (i : Int) → m2 174 = nightS (mi 174) (cN c) i → (∀ a, a ≠ 174 → m2 a = cp2 mi 174 176 12 a) → V KX8_done 8 0 0 (offQ (some (.int (sDone (mi 174) c nc e s nv x))) n mi mr scrM) 17 [some (.ref 173), some (.int x), some (.int y)] [] n m2 mr := by
      intro m
      induction m with
      | zero =>
        intro i m2 y him hy hm ho
        have e12 : ∀ k, 12 ≤ k → m2 174 k = mi 174 k := fun k hk => by rw [hm, nightS_hi hBD.y hk (by omega)]
        refine V_iload_n dX8_done_17 rfl ?_
        refine V_aload_n dX8_done_18 rfl ?_
        refine V_getr (b := 174) 8 1 dX8_done_19 (Or.inl lkX8_9) rfl rfl ⟨by omega, by omega⟩ (hR _ _ _ rfl) ?_
        refine V_bipush (v := 15) dX8_done_22 rfl ?_
        refine V_iald (len := 938) 15 dX8_done_24 rfl ⟨by omega, by omega⟩ (by decide) (by omega) ?_
        refine V_icmp_ge (tgt := 65) dX8_done_25 (by decide) (fun c25 => ?_) (fun c25 => absurd ((le_nat (by rw [e12 15 (by decide)]; exact hP) hy).mpr (by omega)) c25)
        have hi : i = cP c := by omega
        subst hi
        have hBD2 : BDy 2000 (m2 174) c := by
          rw [hm]
          exact (nightS_bd hBD (Nat.le_refl _)).mono (by omega)
        have hMV2 : MV (m2 174) nc e s nv b := hMV.hi e12 hb12
        have hback : ∀ m3 : MI, Off byM m2 m3 → Off scrM mi (cp2 m3 176 174 12) := fun m3 h3 a k hk => by
          have e3 : m3 a = m2 a := h3.fn (fun j hj => by unfold byM at hj; unfold scrM at hk; omega)
          have e4 : m3 176 = m2 176 := h3.fn (fun j hj => by unfold byM at hj; omega)
          simp only [cp2]
          unfold scrM at hk
          by_cases h1 : a = 174
          · subst h1
            by_cases h2 : k < 12
            · rw [if_pos ⟨rfl, h2⟩, e4, ho 176 (by decide)]
              simp [cp2, h2]
            · rw [if_neg (by omega), e3]
              exact e12 k (by omega)
          · rw [if_neg (by omega), e3, ho a h1]
            simp only [cp2]
            rw [if_neg (by omega)]
        refine V_iload_n dX8_done_65 rfl ?_
        refine V_if_ne (tgt := 79) dX8_done_66 (by decide) (fun c66 => ?_) (fun c66 => ?_)
        · refine V_aload_n dX8_done_79 rfl ?_
          refine V_callV (ci := 8) (qX8_allNerve _ m2 _ c hR hn hBD2 nc e s nv b hMV2) dX8_done_80 mlX8_181 mtX8_allNerve ivX8_allNerve rfl rfl ⟨by omega, by omega⟩ (by decide) rfl rfl (by decide) (Nat.le_of_ble_eq_true rfl) rfl rfl ?_
          rintro _ _ m3 _ ⟨rfl, rfl, rfl, ho3⟩
          refine V_istore_n (L' := [_, _, _]) dX8_done_83 (by decide) rfl rfl ?_
          refine V_aload_n dX8_done_84 rfl ?_
          refine V_callV (ci := 8) (qX8_goesBack _ _ _ hR hn) dX8_done_85 mlX8_197 mtX8_goesBack ivX8_goesBack rfl rfl ⟨by omega, by omega⟩ (by decide) rfl rfl (by decide) (Nat.le_of_ble_eq_true rfl) rfl rfl ?_
          rintro _ _ _ _ ⟨rfl, rfl, rfl, rfl⟩
          refine V_iload_n dX8_done_88 rfl ?_
          refine V_iret dX8_done_89 rfl rfl ?_
          first
            | (refine ⟨?_, rfl, rfl, hback _ Off.rf⟩
               unfold sDone
               rw [if_pos (b01_n.mp c6), if_pos c66, hm]
               done)
            | (refine ⟨?_, rfl, rfl, hback _ ho3⟩
               unfold sDone
               rw [if_pos (b01_n.mp c6), if_neg c66, hm]
               done)
        · refine V_aload_n dX8_done_69 rfl ?_
          refine V_callV (ci := 8) (qX8_whoIsHere _ _ _ hR hn (cN c) hN6 hBD2.okS (by rw [e12 12 (by decide)]; exact hN)) dX8_done_70 mlX8_178 mtX8_whoIsHere ivX8_whoIsHere rfl rfl ⟨by omega, by omega⟩ (by decide) rfl rfl (by decide) (Nat.le_of_ble_eq_true rfl) rfl rfl ?_
          rintro _ _ _ _ ⟨rfl, rfl, rfl, rfl⟩
          refine V_callS (qX8_countOf _ _ _ hR hn _) dX8_done_73 mlX8_265 mtX8_countOf smX8_countOf rfl rfl (by decide) (Nat.le_of_ble_eq_true rfl) rfl rfl ?_
          rintro _ _ _ _ ⟨rfl, rfl, rfl, rfl⟩
          rw [bits_cnt hN6]
          refine V_goto (tgt := 83) dX8_done_76 (by decide) ?_
          refine V_istore_n (L' := [_, _, _]) dX8_done_83 (by decide) rfl rfl ?_
          refine V_aload_n dX8_done_84 rfl ?_
          refine V_callV (ci := 8) (qX8_goesBack _ _ _ hR hn) dX8_done_85 mlX8_197 mtX8_goesBack ivX8_goesBack rfl rfl ⟨by omega, by omega⟩ (by decide) rfl rfl (by decide) (Nat.le_of_ble_eq_true rfl) rfl rfl ?_
          rintro _ _ _ _ ⟨rfl, rfl, rfl, rfl⟩
          refine V_iload_n dX8_done_88 rfl ?_
          refine V_iret dX8_done_89 rfl rfl ?_
          first
            | (refine ⟨?_, rfl, rfl, hback _ Off.rf⟩
               unfold sDone
               rw [if_pos (b01_n.mp c6), if_pos c66, hm]
               done)
            | (refine ⟨?_, rfl, rfl, hback _ ho3⟩
               unfold sDone
               rw [if_pos (b01_n.mp c6), if_neg c66, hm]
               done)
      | succ m ih =>
        intro i m2 y him hy hm ho
        have e12 : ∀ k, 12 ≤ k → m2 174 k = mi 174 k := fun k hk => by rw [hm, nightS_hi hBD.y hk (by omega)]
        refine V_iload_n dX8_done_17 rfl ?_
        refine V_aload_n dX8_done_18 rfl ?_
        refine V_getr (b := 174) 8 1 dX8_done_19 (Or.inl lkX8_9) rfl rfl ⟨by omega, by omega⟩ (hR _ _ _ rfl) ?_
        refine V_bipush (v := 15) dX8_done_22 rfl ?_
        refine V_iald (len := 938) 15 dX8_done_24 rfl ⟨by omega, by omega⟩ (by decide) (by omega) ?_
        refine V_icmp_ge (tgt := 65) dX8_done_25 (by decide) (fun c25 => absurd ((le_nat (by rw [e12 15 (by decide)]; exact hP) hy).mp c25) (by omega)) (fun c25 => ?_)
        have hpl := plan_cases hBD.y (j := i) (by omega)
        have hokd : mi 174 (83 + i) = 0 ∨ ((∃ p : Nat, (mi 174 (91 + i)).toInt = (p : Int) ∧ p < 6) ∧ (mi 174 (83 + i) = 1 → ∃ v : Nat, (mi 174 (99 + i)).toInt = (v : Int) ∧ v < 5)) := by
          rcases hpl with e | ⟨e, p, p1, p2, e1 | ⟨e1, v, v1, v2⟩⟩
          · exact Or.inl e
          · exact Or.inr ⟨⟨p, p1, by omega⟩, fun q => absurd q e1⟩
          · exact Or.inr ⟨⟨p, p1, by omega⟩, fun _ => ⟨v, v1, by omega⟩⟩
        refine V_aload_n dX8_done_28 rfl ?_
        refine V_aload_n dX8_done_29 rfl ?_
        refine V_getr (b := 174) 8 1 dX8_done_30 (Or.inl lkX8_9) rfl rfl ⟨by omega, by omega⟩ (hR _ _ _ rfl) ?_
        refine V_bipush (v := 83) dX8_done_33 rfl ?_
        refine V_iload_n dX8_done_35 rfl ?_
        refine V_iadd dX8_done_36 ?_
        refine V_iald (len := 938) (83 + i) dX8_done_37 rfl ⟨by omega, by omega⟩ (ix_add (by decide) hy (by omega)) (by omega) ?_
        rw [e12 (83 + i) (by omega)]
        refine V_aload_n dX8_done_38 rfl ?_
        refine V_getr (b := 174) 8 1 dX8_done_39 (Or.inl lkX8_9) rfl rfl ⟨by omega, by omega⟩ (hR _ _ _ rfl) ?_
        refine V_bipush (v := 91) dX8_done_42 rfl ?_
        refine V_iload_n dX8_done_44 rfl ?_
        refine V_iadd dX8_done_45 ?_
        refine V_iald (len := 938) (91 + i) dX8_done_46 rfl ⟨by omega, by omega⟩ (ix_add (by decide) hy (by omega)) (by omega) ?_
        rw [e12 (91 + i) (by omega)]
        refine V_aload_n dX8_done_47 rfl ?_
        refine V_getr (b := 174) 8 1 dX8_done_48 (Or.inl lkX8_9) rfl rfl ⟨by omega, by omega⟩ (hR _ _ _ rfl) ?_
        refine V_bipush (v := 99) dX8_done_51 rfl ?_
        refine V_iload_n dX8_done_53 rfl ?_
        refine V_iadd dX8_done_54 ?_
        refine V_iald (len := 938) (99 + i) dX8_done_55 rfl ⟨by omega, by omega⟩ (ix_add (by decide) hy (by omega)) (by omega) ?_
        rw [e12 (99 + i) (by omega)]
        refine V_callV (ci := 8) (qX8_does _ m2 _ hR hn (cN c) hN6 (by rw [e12 12 (by decide)]; exact hN) _ _ _ hokd) dX8_done_56 mlX8_268 mtX8_does ivX8_does rfl rfl ⟨by omega, by omega⟩ (by decide) rfl rfl (by decide) (Nat.le_of_ble_eq_true rfl) rfl rfl ?_
        rintro _ _ _ _ ⟨rfl, rfl, rfl, rfl⟩
        refine V_iinc (v := _ + (1)) (L' := [_, _, _]) dX8_done_59 (by decide) rfl rfl rfl rfl ?_
        refine V_goto (tgt := 17) dX8_done_62 (by decide) ?_
        refine ih (i + 1) _ _ (by omega) (ix_add hy (by decide) (by omega)) ?_ (fun a ha => ?_)
        · show _ = doS (nightS (mi 174) (cN c) i) (mi 174) (cN c) i
          have hb9 := nightS_bd hBD (j := i) (by omega)
          rw [← hm] at hb9 ⊢
          unfold doS
          rcases hpl with e | ⟨e, p, p1, p2, e1 | ⟨e1, v, v1, v2⟩⟩
          · rw [if_pos e, if_pos e]
            exact dawnM_row
          · rw [if_neg e, if_neg e, if_neg e1, if_neg e1, nat_of_toInt p1]
            exact up2_upS
          · rw [if_neg e, if_neg e, if_pos e1, if_pos e1, nat_of_toInt p1, nat_of_toInt v1]
            obtain ⟨q, q1, q2⟩ := (hb9.2.2.2.2.1 v (by omega)).2
            by_cases hz : m2 174 (7 + v) = 0
            · rw [if_pos hz, if_neg (by rw [hz]; decide)]
            · rw [if_neg hz, if_pos]
              · rw [up2_upS, up2_upS]
              · rw [← Int32.toInt_inj, q1] at hz
                rw [Int32.lt_iff_toInt_lt, q1]
                simp only [Int32.reduceToInt] at hz ⊢
                omega
        · rw [← ho a ha]
          split
          · exact funext fun k => dawnM_off (by omega)
          · split
            · split
              · rw [up2_row (by omega), up2_row (by omega)]
              · rfl
            · rw [up2_row (by omega)]
    exact loop (cP c) 0 _ _ (by omega) (by decide) (funext fun k => by simp [cp2, nightS]) (fun _ _ => rfl)
  · refine V_iconst (v := -1) dX8_done_9 rfl ?_
    refine V_iret dX8_done_10 rfl rfl ?_
    refine ⟨?_, rfl, rfl, Off.rf⟩
    unfold sDone
    rw [if_neg (b01_0.mp c6)]
