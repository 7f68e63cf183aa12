theorem rF_2 {sort : Nat} {set : Int32} {H : Nat → Nat → Bool} {p k : Nat} (h : sort = 2) : rF sort set H p k = true := by
  unfold rF
  rw [decide_eq_true h]
  rfl
theorem rF_iff {sort : Nat} {set : Int32} {H : Nat → Nat → Bool} {p k : Nat} (h : ¬ sort = 2) : rF sort set H p k = true ↔ (H p k = true ↔ (set >>> (nI p &&& 31)) &&& 1 = 1) := by
  unfold rF
  rw [decide_eq_false h, Bool.false_or]
  by_cases h2 : (set >>> (nI p &&& 31)) &&& 1 = 1
  · rw [decide_eq_true h2]
    cases e : H p k with
    | true => exact ⟨fun _ => ⟨fun _ => h2, fun _ => rfl⟩, fun _ => rfl⟩
    | false => exact ⟨fun q => Bool.noConfusion q, fun q => Bool.noConfusion (q.mpr h2)⟩
  · rw [decide_eq_false h2]
    cases e : H p k with
    | true => exact ⟨fun q => Bool.noConfusion q, fun q => absurd (q.mp rfl) h2⟩
    | false => exact ⟨fun _ => ⟨fun q => Bool.noConfusion q, fun q => absurd q h2⟩, fun _ => rfl⟩
set_option maxRecDepth 4000 in
theorem qX8_seatsFrom (n : Nat) (mr : MR) (hR : RF mr) (hn : 186 ≤ n) (sort N W : Nat) (set : Int32) (H : Nat → Nat → Bool) (A B : Nat → Nat → Int) (hab : okAB N W A B) : ∀ (m p : Nat) (mi : MI) (x y : Int32) (hv : Nat) (st : Option Cand) (lf f : Nat → Nat), p + m = N → SQm sort N W set H A B mi → LFm W lf mi → m ≤ lf 0 → STm p f mi → BSm N mi st → x.toInt = (p : Int) → y.toInt = (hv : Int) → hv ≤ p → (∀ q, q < p → f q ≤ W) → Ct KX8_seatsFrom (m + 4) 0 0 [.ref 173, .int x, .int y] n mi mr (fun r n' mi' mr' => none = r ∧ n = n' ∧ mr = mr' ∧ Off (offU p) mi mi' ∧ BSm N mi' (fdB st (lvs (rF sort set H) (cCost sort N A (fun p k => if sort = 2 then B p k else 0)) W m p lf f hv))) := by
  intro m
  induction m with
  | zero =>
    intro p mi x y hv st lf f hpm hSR hLF hl0 hST hBS hx hy hvp hfW
    refine Ct.of2 [some (.ref 173), some (.int x), some (.int y), none, none] (by decide +kernel) (Nat.le_of_ble_eq_true rfl) rfl ?_
    have hSR0 := hSR
    obtain ⟨⟨hN, hN6⟩, ⟨hW, hW5⟩, ⟨hso, hs3⟩, hset, hrows⟩ := hSR
    have hpN : p = N := by omega
    refine V_iload_n dX8_seatsFrom_0 rfl ?_
    refine V_aload_n dX8_seatsFrom_1 rfl ?_
    refine V_getr (b := 174) 8 1 dX8_seatsFrom_2 (Or.inl lkX8_9) rfl rfl ⟨by omega, by omega⟩ (hR _ _ _ rfl) ?_
    refine V_bipush (v := 12) dX8_seatsFrom_5 rfl ?_
    refine V_iald (len := 938) 12 dX8_seatsFrom_7 rfl ⟨by omega, by omega⟩ (by decide) (by omega) ?_
    refine V_icmp_ne (tgt := 17) dX8_seatsFrom_8 (by decide) (fun c8 => absurd ((eq_nat hx hN).mpr hpN) c8) (fun c8 => ?_)
    refine V_aload_n dX8_seatsFrom_11 rfl ?_
    refine V_iload_n dX8_seatsFrom_12 rfl ?_
    refine V_callV (ci := 8) (qX8_keepsSeat n mi mr hR hn sort N W set H A B hab hSR0 f (fun q hq => hST q (by omega)) (fun q hq => hfW q (by omega)) st hBS _ hv hy) dX8_seatsFrom_13 mlX8_219 mtX8_keepsSeat ivX8_keepsSeat rfl rfl ⟨by omega, by omega⟩ (by decide) rfl rfl (by omega) (Nat.le_of_ble_eq_true rfl) rfl rfl ?_
    rintro _ _ m9 _ ⟨rfl, rfl, rfl, ho9, hb9⟩
    refine V_ret dX8_seatsFrom_16 rfl ?_
    exact ⟨rfl, rfl, rfl, ho9.mono (fun a k q => by unfold offU; omega), hb9⟩
  | succ m ih =>
    intro p mi x y hv st lf f hpm hSR hLF hl0 hST hBS hx hy hvp hfW
    refine Ct.of2 [some (.ref 173), some (.int x), some (.int y), none, none] (by decide +kernel) (Nat.le_of_ble_eq_true rfl) rfl ?_
    have hSR0 := hSR
    obtain ⟨⟨hN, hN6⟩, ⟨hW, hW5⟩, ⟨hso, hs3⟩, hset, hrows⟩ := hSR
    have hxp : x = nI p := nI_of_toInt hx
    have loop : ∀ (i k : Nat) (mj : MI) (u : Int32) (z4 : Option Value), k + i = W + 1 → u.toInt = (k : Int) → Off (offU p) mi mj → BSm N mj (fdB st (alts (fun k => if rF sort set H p k = true ∧ 0 < lf k then lvs (rF sort set H) (cCost sort N A (fun p k => if sort = 2 then B p k else 0)) W m (p + 1) (lessB lf k) (setS f p k) (incH k hv) else []) k 0)) → V KX8_seatsFrom (m + 1 + 4) 0 0 (fun r n' mi' mr' => none = r ∧ n = n' ∧ mr = mr' ∧ Off (offU p) mi mi' ∧ BSm N mi' (fdB st (lvs (rF sort set H) (cCost sort N A (fun p k => if sort = 2 then B p k else 0)) W (m + 1) p lf f hv))) 19 [some (.ref 173), some (.int x), some (.int y), some (.int u), z4] [] n mj mr := by
      intro i
      induction i with
      | zero =>
        intro k mj u z4 hki hu hoj hBj
        have e174 : mj 174 = mi 174 := hoj.fn (fun k => by unfold offU; omega)
        have hWj : nat (mj 174 19) W := by rw [e174]; exact hW
        refine V_iload_n dX8_seatsFrom_19 rfl ?_
        refine V_aload_n dX8_seatsFrom_20 rfl ?_
        refine V_getr (b := 174) 8 1 dX8_seatsFrom_21 (Or.inl lkX8_9) rfl rfl ⟨by omega, by omega⟩ (hR _ _ _ rfl) ?_
        refine V_bipush (v := 19) dX8_seatsFrom_24 rfl ?_
        refine V_iald (len := 938) 19 dX8_seatsFrom_26 rfl ⟨by omega, by omega⟩ (by decide) (by omega) ?_
        refine V_icmp_gt (tgt := 159) dX8_seatsFrom_27 (by decide) (fun c27 => ?_) (fun c27 => absurd ((lt_nat hWj hu).mpr (by omega)) c27)
        refine V_ret dX8_seatsFrom_159 rfl ?_
        have hk : k = W + 1 := by omega
        subst hk
        exact ⟨rfl, rfl, rfl, hoj, hBj⟩
      | succ i ih2 =>
        intro k mj u z4 hki hu hoj hBj
        have e174 : mj 174 = mi 174 := hoj.fn (fun k => by unfold offU; omega)
        have hWj : nat (mj 174 19) W := by rw [e174]; exact hW
        have hk5 : k ≤ W := by omega
        have hSj0 := hSR0.off (mj := mj) (fun a j h => hoj a j (fun q => h (Or.inl (by unfold offU at *; omega))))
        have hLj : LFm W lf mj := fun j hj => by rw [hoj 183 j (by unfold offU; omega)]; exact hLF j hj
        have hTj : STm p f mj := fun q hq => by rw [hoj 181 q (by unfold offU; omega)]; exact hST q hq
        have hSj := hSj0
        obtain ⟨-, -, ⟨hsoj, -⟩, hsetj, hrj⟩ := hSj
        obtain ⟨w1, w2, w3⟩ := hrj p k (by omega) hk5
        have hs2 : mj 173 18 = 2 ↔ sort = 2 := sort_c hsoj hs3 2 (by decide)
        have hskip : ∀ (z4 : Option Value), ¬ (rF sort set H p k = true ∧ 0 < lf k) → V KX8_seatsFrom (m + 1 + 4) 0 0 (fun r n' mi' mr' => none = r ∧ n = n' ∧ mr = mr' ∧ Off (offU p) mi mi' ∧ BSm N mi' (fdB st (lvs (rF sort set H) (cCost sort N A (fun p k => if sort = 2 then B p k else 0)) W (m + 1) p lf f hv))) 153 [some (.ref 173), some (.int x), some (.int y), some (.int u), z4] [] n mj mr := by
          intro z4 hno
          refine V_iinc (v := _ + (1)) (L' := [_, _, _, _, _]) dX8_seatsFrom_153 (by decide) rfl rfl rfl rfl ?_
          refine V_goto (tgt := 19) dX8_seatsFrom_156 (by decide) ?_
          refine ih2 (k + 1) mj _ _ (by omega) (ix_add hu (by decide) (by omega)) hoj ?_
          rw [alts_snoc, fdB_app, Nat.zero_add, if_neg hno]
          exact hBj
        have hnext : ∀ (m9 : MI) (z4 : Option Value), Off (offU p) mi m9 → BSm N m9 (fdB (fdB st (alts (fun k => if rF sort set H p k = true ∧ 0 < lf k then lvs (rF sort set H) (cCost sort N A (fun p k => if sort = 2 then B p k else 0)) W m (p + 1) (lessB lf k) (setS f p k) (incH k hv) else []) k 0)) (lvs (rF sort set H) (cCost sort N A (fun p k => if sort = 2 then B p k else 0)) W m (p + 1) (lessB lf k) (setS f p k) (incH k hv))) → (rF sort set H p k = true ∧ 0 < lf k) → V KX8_seatsFrom (m + 1 + 4) 0 0 (fun r n' mi' mr' => none = r ∧ n = n' ∧ mr = mr' ∧ Off (offU p) mi mi' ∧ BSm N mi' (fdB st (lvs (rF sort set H) (cCost sort N A (fun p k => if sort = 2 then B p k else 0)) W (m + 1) p lf f hv))) 153 [some (.ref 173), some (.int x), some (.int y), some (.int u), z4] [] n m9 mr := by
          intro m9 z4 ho hb hyes
          refine V_iinc (v := _ + (1)) (L' := [_, _, _, _, _]) dX8_seatsFrom_153 (by decide) rfl rfl rfl rfl ?_
          refine V_goto (tgt := 19) dX8_seatsFrom_156 (by decide) ?_
          refine ih2 (k + 1) m9 _ _ (by omega) (ix_add hu (by decide) (by omega)) ho ?_
          rw [alts_snoc, fdB_app, Nat.zero_add, if_pos hyes]
          exact hb
        have hsW2 : ∀ q, q < p + 1 → setS f p k q ≤ W := fun q hq => by
          by_cases e : q = p
          · rw [e, setS_s]; exact hk5
          · rw [setS_n e]; exact hfW q (by omega)
        have hst2 : ∀ mk : MI, (∀ q, mk 181 q = up2 mj 181 p u 181 q) → STm (p + 1) (setS f p k) mk := fun mk hmk q hq => by
          rw [hmk]
          by_cases e : q = p
          · rw [e, setS_s, up2_s]
            exact hu
          · rw [setS_n e, up2_keep (by omega)]
            exact hTj q (by omega)
        have h76 : ∀ z4 : Int32, z4 = b01 (rF sort set H p k = true) → V KX8_seatsFrom (m + 1 + 4) 0 0 (fun r n' mi' mr' => none = r ∧ n = n' ∧ mr = mr' ∧ Off (offU p) mi mi' ∧ BSm N mi' (fdB st (lvs (rF sort set H) (cCost sort N A (fun p k => if sort = 2 then B p k else 0)) W (m + 1) p lf f hv))) 76 [some (.ref 173), some (.int x), some (.int y), some (.int u), some (.int z4)] [] n mj mr := by
          intro z4 hz4
          refine V_iload dX8_seatsFrom_76 rfl ?_
          refine V_if_eq (tgt := 153) dX8_seatsFrom_78 (by decide) (fun c78 => hskip _ (fun h => absurd (b01_0.mp (hz4.symm.trans c78)) (fun q => q h.1))) (fun c78 => ?_)
          refine V_iload_n dX8_seatsFrom_81 rfl ?_
          refine V_if_eq (tgt := 96) dX8_seatsFrom_82 (by decide) (fun c82 => ?_) (fun c82 => ?_)
          · have hk0 : k = 0 := (eq_nat hu (y := 0) (b := 0) rfl).mp c82
            have hyes : rF sort set H p k = true ∧ 0 < lf k := ⟨b01_n.mp (by rw [← hz4]; exact c78), by rw [hk0]; omega⟩
            have hsr2 : SQm sort N W set H A B (up2 mj 181 p u) := hSj0.off (fun a j h => up2_keep (fun q => h (Or.inl (Or.inl ⟨q.1, Nat.zero_le _⟩))))
            have hlf2 : LFm W (lessB lf k) (up2 mj 181 p u) := fun j hj => by
              rw [up2_row (by decide), hk0]
              unfold lessB
              rw [if_neg (Nat.succ_ne_zero j)]
              exact hLj j hj
            have hm2 : m ≤ lessB lf k 0 := by unfold lessB; split <;> omega
            have hbs2 : BSm N (up2 mj 181 p u) (fdB st (alts (fun k => if rF sort set H p k = true ∧ 0 < lf k then lvs (rF sort set H) (cCost sort N A (fun p k => if sort = 2 then B p k else 0)) W m (p + 1) (lessB lf k) (setS f p k) (incH k hv) else []) k 0)) := hBj.eq (fun j _ _ => by rw [up2_row (by decide)]) (fun j => by rw [up2_row (by decide)])
            have hy2 : (y + 0).toInt = (incH k hv : Int) := by
              unfold incH
              rw [if_pos hk0, Int32.add_zero]
              exact hy
            have hv2 : incH k hv ≤ p + 1 := by unfold incH; split <;> omega
            refine V_aload_n dX8_seatsFrom_96 rfl ?_
            refine V_getr (b := 181) 8 14 dX8_seatsFrom_97 (Or.inl lkX8_34) rfl rfl ⟨by omega, by omega⟩ (hR _ _ _ rfl) ?_
            refine V_iload_n dX8_seatsFrom_100 rfl ?_
            refine V_iload_n dX8_seatsFrom_101 rfl ?_
            refine V_iast (len := 6) p dX8_seatsFrom_102 rfl ⟨by omega, by omega⟩ hx (by omega) ?_
            refine V_iload_n dX8_seatsFrom_103 rfl ?_
            refine V_if_le (tgt := 119) dX8_seatsFrom_104 (by decide) (fun c104 => ?_) (fun c104 => absurd c82 (fun e => c104 (by rw [e]; decide)))
            refine V_aload_n dX8_seatsFrom_119 rfl ?_
            refine V_iload_n dX8_seatsFrom_120 rfl ?_
            refine V_iconst (v := 1) dX8_seatsFrom_121 rfl ?_
            refine V_iadd dX8_seatsFrom_122 ?_
            refine V_iload_n dX8_seatsFrom_123 rfl ?_
            refine V_iload_n dX8_seatsFrom_124 rfl ?_
            refine V_if_le (tgt := 132) dX8_seatsFrom_125 (by decide) (fun c125 => ?_) (fun c125 => absurd c82 (fun e => c125 (by rw [e]; decide)))
            refine V_iconst (v := 0) dX8_seatsFrom_132 rfl ?_
            refine V_iadd dX8_seatsFrom_133 ?_
            refine V_callV (ci := 8) (ih (p + 1) (up2 mj 181 p u) _ _ (incH k hv) (fdB st (alts (fun k => if rF sort set H p k = true ∧ 0 < lf k then lvs (rF sort set H) (cCost sort N A (fun p k => if sort = 2 then B p k else 0)) W m (p + 1) (lessB lf k) (setS f p k) (incH k hv) else []) k 0)) (lessB lf k) (setS f p k) (by omega) hsr2 hlf2 hm2 (hst2 _ (fun q => rfl)) hbs2 (ix_add hx (by decide) (by omega)) hy2 hv2 hsW2) dX8_seatsFrom_134 mlX8_225 mtX8_seatsFrom ivX8_seatsFrom rfl rfl ⟨by omega, by omega⟩ (by decide) rfl rfl (by omega) (Nat.le_of_ble_eq_true rfl) rfl rfl ?_
            rintro _ _ m9 _ ⟨rfl, rfl, rfl, ho9, hb9⟩
            refine V_iload_n dX8_seatsFrom_137 rfl ?_
            refine V_if_le (tgt := 153) dX8_seatsFrom_138 (by decide) (fun c138 => ?_) (fun c138 => absurd c82 (fun e => c138 (by rw [e]; decide)))
            refine hnext m9 _ (fun a j h => ?_) hb9 hyes
            rw [ho9 a j (fun q => h (by unfold offU at *; omega)), up2_keep (fun q => h (Or.inl ⟨q.1, by omega⟩))]
            exact hoj a j h
          · have hkp : 0 < k := Nat.pos_of_ne_zero (fun e => c82 ((eq_nat hu (y := 0) (b := 0) rfl).mpr e))
            have hup : ¬ u ≤ 0 := fun h => absurd ((le_nat hu (y := 0) (b := 0) rfl).mp h) (by omega)
            refine V_aload_n dX8_seatsFrom_85 rfl ?_
            refine V_getr (b := 183) 8 16 dX8_seatsFrom_86 (Or.inl lkX8_40) rfl rfl ⟨by omega, by omega⟩ (hR _ _ _ rfl) ?_
            refine V_iload_n dX8_seatsFrom_89 rfl ?_
            refine V_iconst (v := 1) dX8_seatsFrom_90 rfl ?_
            refine V_isub dX8_seatsFrom_91 ?_
            refine V_iald (len := 5) (k - 1) dX8_seatsFrom_92 rfl ⟨by omega, by omega⟩ (ix_sub hu (b := 1) (by decide) (by omega)) (by omega) ?_
            refine V_if_le (tgt := 153) dX8_seatsFrom_93 (by decide) (fun c93 => ?_) (fun c93 => ?_)
            · refine hskip _ (fun h => ?_)
              have hl1 := hLj (k - 1) (by omega)
              rw [show k - 1 + 1 = k by omega] at hl1
              rw [Int32.le_iff_toInt_le, hl1.1] at c93
              have := h.2
              simp only [Int32.reduceToInt] at c93
              omega
            · have hk0 : ¬ k = 0 := fun e => c82 ((eq_nat hu (y := 0) (b := 0) rfl).mpr e)
              have hk1 : k - 1 + 1 = k := by omega
              have hl1 := hLj (k - 1) (by omega)
              rw [hk1] at hl1
              have hlpos : 0 < lf k := by
                have q := Int32.not_le.mp c93
                rw [Int32.lt_iff_toInt_lt, hl1.1] at q
                simp only [Int32.reduceToInt] at q
                omega
              have hyes : rF sort set H p k = true ∧ 0 < lf k := ⟨b01_n.mp (by rw [← hz4]; exact c78), hlpos⟩
              have hsr2 : SQm sort N W set H A B (up2 (up2 mj 181 p u) 183 (k - 1) (mj 183 (k - 1) - 1)) := hSj0.off (fun a j h => by
                rw [up2_keep (fun q => h (Or.inr q.1)), up2_keep (fun q => h (Or.inl (Or.inl ⟨q.1, Nat.zero_le _⟩)))])
              have hlf2 : LFm W (lessB lf k) (up2 (up2 mj 181 p u) 183 (k - 1) (mj 183 (k - 1) - 1)) := fun j hj => by
                unfold lessB
                by_cases ej : j = k - 1
                · rw [ej, hk1, up2_s, if_pos rfl]
                  refine ⟨?_, by omega⟩
                  rw [subOne (N := lf k) hl1.1 (by omega)]
                  omega
                · rw [up2_keep (by omega), up2_row (by decide), if_neg (by omega)]
                  exact hLj j hj
              have hm2 : m ≤ lessB lf k 0 := by unfold lessB; split <;> omega
              have hbs2 : BSm N (up2 (up2 mj 181 p u) 183 (k - 1) (mj 183 (k - 1) - 1)) (fdB st (alts (fun k => if rF sort set H p k = true ∧ 0 < lf k then lvs (rF sort set H) (cCost sort N A (fun p k => if sort = 2 then B p k else 0)) W m (p + 1) (lessB lf k) (setS f p k) (incH k hv) else []) k 0)) := hBj.eq (fun j _ _ => by rw [up2_row (by decide), up2_row (by decide)]) (fun j => by rw [up2_row (by decide), up2_row (by decide)])
              have hy2 : (y + 1).toInt = (incH k hv : Int) := by
                unfold incH
                rw [if_neg hk0]
                exact ix_add hy (by decide) (by omega)
              have hv2 : incH k hv ≤ p + 1 := by unfold incH; split <;> omega
              refine V_aload_n dX8_seatsFrom_96 rfl ?_
              refine V_getr (b := 181) 8 14 dX8_seatsFrom_97 (Or.inl lkX8_34) rfl rfl ⟨by omega, by omega⟩ (hR _ _ _ rfl) ?_
              refine V_iload_n dX8_seatsFrom_100 rfl ?_
              refine V_iload_n dX8_seatsFrom_101 rfl ?_
              refine V_iast (len := 6) p dX8_seatsFrom_102 rfl ⟨by omega, by omega⟩ hx (by omega) ?_
              refine V_iload_n dX8_seatsFrom_103 rfl ?_
              refine V_if_le (tgt := 119) dX8_seatsFrom_104 (by decide) (fun c104 => absurd c104 hup) (fun c104 => ?_)
              refine V_aload_n dX8_seatsFrom_107 rfl ?_
              refine V_getr (b := 183) 8 16 dX8_seatsFrom_108 (Or.inl lkX8_40) rfl rfl ⟨by omega, by omega⟩ (hR _ _ _ rfl) ?_
              refine V_iload_n dX8_seatsFrom_111 rfl ?_
              refine V_iconst (v := 1) dX8_seatsFrom_112 rfl ?_
              refine V_isub dX8_seatsFrom_113 ?_
              refine V_dup2 dX8_seatsFrom_114 rfl rfl ?_
              refine V_iald (len := 5) (k - 1) dX8_seatsFrom_115 rfl ⟨by omega, by omega⟩ (ix_sub hu (b := 1) (by decide) (by omega)) (by omega) ?_
              rw [up2_row (b := 183) (by decide)]
              refine V_iconst (v := 1) dX8_seatsFrom_116 rfl ?_
              refine V_isub dX8_seatsFrom_117 ?_
              refine V_iast (len := 5) (k - 1) dX8_seatsFrom_118 rfl ⟨by omega, by omega⟩ (ix_sub hu (b := 1) (by decide) (by omega)) (by omega) ?_
              refine V_aload_n dX8_seatsFrom_119 rfl ?_
              refine V_iload_n dX8_seatsFrom_120 rfl ?_
              refine V_iconst (v := 1) dX8_seatsFrom_121 rfl ?_
              refine V_iadd dX8_seatsFrom_122 ?_
              refine V_iload_n dX8_seatsFrom_123 rfl ?_
              refine V_iload_n dX8_seatsFrom_124 rfl ?_
              refine V_if_le (tgt := 132) dX8_seatsFrom_125 (by decide) (fun c125 => absurd c125 hup) (fun c125 => ?_)
              refine V_iconst (v := 1) dX8_seatsFrom_128 rfl ?_
              refine V_goto (tgt := 133) dX8_seatsFrom_129 (by decide) ?_
              refine V_iadd dX8_seatsFrom_133 ?_
              refine V_callV (ci := 8) (ih (p + 1) (up2 (up2 mj 181 p u) 183 (k - 1) (mj 183 (k - 1) - 1)) _ _ (incH k hv) (fdB st (alts (fun k => if rF sort set H p k = true ∧ 0 < lf k then lvs (rF sort set H) (cCost sort N A (fun p k => if sort = 2 then B p k else 0)) W m (p + 1) (lessB lf k) (setS f p k) (incH k hv) else []) k 0)) (lessB lf k) (setS f p k) (by omega) hsr2 hlf2 hm2 (hst2 _ (fun q => by rw [up2_row (by decide)])) hbs2 (ix_add hx (by decide) (by omega)) hy2 hv2 hsW2) dX8_seatsFrom_134 mlX8_225 mtX8_seatsFrom ivX8_seatsFrom rfl rfl ⟨by omega, by omega⟩ (by decide) rfl rfl (by omega) (Nat.le_of_ble_eq_true rfl) rfl rfl ?_
              rintro _ _ m9 _ ⟨rfl, rfl, rfl, ho9, hb9⟩
              refine V_iload_n dX8_seatsFrom_137 rfl ?_
              refine V_if_le (tgt := 153) dX8_seatsFrom_138 (by decide) (fun c138 => absurd c138 hup) (fun c138 => ?_)
              refine V_aload_n dX8_seatsFrom_141 rfl ?_
              refine V_getr (b := 183) 8 16 dX8_seatsFrom_142 (Or.inl lkX8_40) rfl rfl ⟨by omega, by omega⟩ (hR _ _ _ rfl) ?_
              refine V_iload_n dX8_seatsFrom_145 rfl ?_
              refine V_iconst (v := 1) dX8_seatsFrom_146 rfl ?_
              refine V_isub dX8_seatsFrom_147 ?_
              refine V_dup2 dX8_seatsFrom_148 rfl rfl ?_
              refine V_iald (len := 5) (k - 1) dX8_seatsFrom_149 rfl ⟨by omega, by omega⟩ (ix_sub hu (b := 1) (by decide) (by omega)) (by omega) ?_
              refine V_iconst (v := 1) dX8_seatsFrom_150 rfl ?_
              refine V_iadd dX8_seatsFrom_151 ?_
              refine V_iast (len := 5) (k - 1) dX8_seatsFrom_152 rfl ⟨by omega, by omega⟩ (ix_sub hu (b := 1) (by decide) (by omega)) (by omega) ?_
              have e183 : m9 183 (k - 1) = mj 183 (k - 1) - 1 := by rw [ho9 183 (k - 1) (by unfold offU; omega), up2_s]
              refine hnext _ _ (fun a j h => ?_) (hb9.eq (fun j _ _ => by rw [up2_row (by decide)]) (fun j => by rw [up2_row (by decide)])) hyes
              by_cases ea : a = 183 ∧ j = k - 1
              · rw [ea.1, ea.2, up2_s, e183, Int32.sub_add_cancel]
                exact hoj 183 (k - 1) (by unfold offU; omega)
              · rw [up2_keep ea, ho9 a j (fun q => h (by unfold offU at *; omega)), up2_keep ea, up2_keep (fun q => h (Or.inl ⟨q.1, by omega⟩))]
                exact hoj a j h
        refine V_iload_n dX8_seatsFrom_19 rfl ?_
        refine V_aload_n dX8_seatsFrom_20 rfl ?_
        refine V_getr (b := 174) 8 1 dX8_seatsFrom_21 (Or.inl lkX8_9) rfl rfl ⟨by omega, by omega⟩ (hR _ _ _ rfl) ?_
        refine V_bipush (v := 19) dX8_seatsFrom_24 rfl ?_
        refine V_iald (len := 938) 19 dX8_seatsFrom_26 rfl ⟨by omega, by omega⟩ (by decide) (by omega) ?_
        refine V_icmp_gt (tgt := 159) dX8_seatsFrom_27 (by decide) (fun c27 => absurd ((lt_nat hWj hu).mp c27) (by omega)) (fun c27 => ?_)
        refine V_aload_n dX8_seatsFrom_30 rfl ?_
        refine V_geti 8 18 dX8_seatsFrom_31 (Or.inl lkX8_204) rfl rfl ⟨by omega, by omega⟩ ?_
        refine V_iconst (v := 2) dX8_seatsFrom_34 rfl ?_
        refine V_icmp_eq (tgt := 69) dX8_seatsFrom_35 (by decide) (fun c35 => ?_) (fun c35 => ?_)
        · refine V_iconst (v := 1) dX8_seatsFrom_69 rfl ?_
          refine V_goto (tgt := 74) dX8_seatsFrom_70 (by decide) ?_
          refine V_istore (L' := [_, _, _, _, _]) dX8_seatsFrom_74 (by decide) rfl rfl ?_
          refine h76 _ ?_
          first
            | exact (b01_t (rF_2 (hs2.mp c35))).symm
            | (rw [hxp] at c58
               first
                | exact (b01_f (fun q => c66 (b01_1.mpr (((rF_iff (fun h => c35 (hs2.mpr h))).mp q).mpr c58)))).symm
                | exact (b01_t ((rF_iff (fun h => c35 (hs2.mpr h))).mpr ⟨fun _ => c58, fun _ => b01_1.mp c66⟩)).symm
                | exact (b01_f (fun q => c58 (((rF_iff (fun h => c35 (hs2.mpr h))).mp q).mp (b01_n.mp c66)))).symm
                | exact (b01_t ((rF_iff (fun h => c35 (hs2.mpr h))).mpr ⟨fun h => absurd h (b01_0.mp c66), fun h => absurd h c58⟩)).symm)
        · refine V_aload_n dX8_seatsFrom_38 rfl ?_
          refine V_getr (b := 184) 8 17 dX8_seatsFrom_39 (Or.inl lkX8_43) rfl rfl ⟨by omega, by omega⟩ (hR _ _ _ rfl) ?_
          refine V_bipush (v := 6) dX8_seatsFrom_42 rfl ?_
          refine V_iload_n dX8_seatsFrom_44 rfl ?_
          refine V_imul dX8_seatsFrom_45 ?_
          refine V_iload_n dX8_seatsFrom_46 rfl ?_
          refine V_iadd dX8_seatsFrom_47 ?_
          refine V_zald (len := 36) (6 * p + k) dX8_seatsFrom_48 rfl ⟨by omega, by omega⟩ (ix_add (ix_mul (a := 6) (by decide) hx (by omega)) hu (by omega)) (by omega) ?_
          rw [w2]
          refine V_aload_n dX8_seatsFrom_49 rfl ?_
          refine V_geti 8 19 dX8_seatsFrom_50 (Or.inl lkX8_222) rfl rfl ⟨by omega, by omega⟩ ?_
          refine V_iload_n dX8_seatsFrom_53 rfl ?_
          refine V_ishr dX8_seatsFrom_54 ?_
          refine V_iconst (v := 1) dX8_seatsFrom_55 rfl ?_
          refine V_iand dX8_seatsFrom_56 ?_
          refine V_iconst (v := 1) dX8_seatsFrom_57 rfl ?_
          rw [hsetj]
          refine V_icmp_ne (tgt := 65) dX8_seatsFrom_58 (by decide) (fun c58 => ?_) (fun c58 => ?_)
          · refine V_iconst (v := 0) dX8_seatsFrom_65 rfl ?_
            refine V_icmp_ne (tgt := 73) dX8_seatsFrom_66 (by decide) (fun c66 => ?_) (fun c66 => ?_)
            · refine V_iconst (v := 0) dX8_seatsFrom_73 rfl ?_
              refine V_istore (L' := [_, _, _, _, _]) dX8_seatsFrom_74 (by decide) rfl rfl ?_
              refine h76 _ ?_
              first
                | exact (b01_t (rF_2 (hs2.mp c35))).symm
                | (rw [hxp] at c58
                   first
                    | exact (b01_f (fun q => c66 (b01_1.mpr (((rF_iff (fun h => c35 (hs2.mpr h))).mp q).mpr c58)))).symm
                    | exact (b01_t ((rF_iff (fun h => c35 (hs2.mpr h))).mpr ⟨fun _ => c58, fun _ => b01_1.mp c66⟩)).symm
                    | exact (b01_f (fun q => c58 (((rF_iff (fun h => c35 (hs2.mpr h))).mp q).mp (b01_n.mp c66)))).symm
                    | exact (b01_t ((rF_iff (fun h => c35 (hs2.mpr h))).mpr ⟨fun h => absurd h (b01_0.mp c66), fun h => absurd h c58⟩)).symm)
            · refine V_iconst (v := 1) dX8_seatsFrom_69 rfl ?_
              refine V_goto (tgt := 74) dX8_seatsFrom_70 (by decide) ?_
              refine V_istore (L' := [_, _, _, _, _]) dX8_seatsFrom_74 (by decide) rfl rfl ?_
              refine h76 _ ?_
              first
                | exact (b01_t (rF_2 (hs2.mp c35))).symm
                | (rw [hxp] at c58
                   first
                    | exact (b01_f (fun q => c66 (b01_1.mpr (((rF_iff (fun h => c35 (hs2.mpr h))).mp q).mpr c58)))).symm
                    | exact (b01_t ((rF_iff (fun h => c35 (hs2.mpr h))).mpr ⟨fun _ => c58, fun _ => b01_1.mp c66⟩)).symm
                    | exact (b01_f (fun q => c58 (((rF_iff (fun h => c35 (hs2.mpr h))).mp q).mp (b01_n.mp c66)))).symm
                    | exact (b01_t ((rF_iff (fun h => c35 (hs2.mpr h))).mpr ⟨fun h => absurd h (b01_0.mp c66), fun h => absurd h c58⟩)).symm)
          · refine V_iconst (v := 1) dX8_seatsFrom_61 rfl ?_
            refine V_goto (tgt := 66) dX8_seatsFrom_62 (by decide) ?_
            refine V_icmp_ne (tgt := 73) dX8_seatsFrom_66 (by decide) (fun c66 => ?_) (fun c66 => ?_)
            · refine V_iconst (v := 0) dX8_seatsFrom_73 rfl ?_
              refine V_istore (L' := [_, _, _, _, _]) dX8_seatsFrom_74 (by decide) rfl rfl ?_
              refine h76 _ ?_
              first
                | exact (b01_t (rF_2 (hs2.mp c35))).symm
                | (rw [hxp] at c58
                   first
                    | exact (b01_f (fun q => c66 (b01_1.mpr (((rF_iff (fun h => c35 (hs2.mpr h))).mp q).mpr c58)))).symm
                    | exact (b01_t ((rF_iff (fun h => c35 (hs2.mpr h))).mpr ⟨fun _ => c58, fun _ => b01_1.mp c66⟩)).symm
                    | exact (b01_f (fun q => c58 (((rF_iff (fun h => c35 (hs2.mpr h))).mp q).mp (b01_n.mp c66)))).symm
                    | exact (b01_t ((rF_iff (fun h => c35 (hs2.mpr h))).mpr ⟨fun h => absurd h (b01_0.mp c66), fun h => absurd h c58⟩)).symm)
            · refine V_iconst (v := 1) dX8_seatsFrom_69 rfl ?_
              refine V_goto (tgt := 74) dX8_seatsFrom_70 (by decide) ?_
              refine V_istore (L' := [_, _, _, _, _]) dX8_seatsFrom_74 (by decide) rfl rfl ?_
              refine h76 _ ?_
              first
                | exact (b01_t (rF_2 (hs2.mp c35))).symm
                | (rw [hxp] at c58
                   first
                    | exact (b01_f (fun q => c66 (b01_1.mpr (((rF_iff (fun h => c35 (hs2.mpr h))).mp q).mpr c58)))).symm
                    | exact (b01_t ((rF_iff (fun h => c35 (hs2.mpr h))).mpr ⟨fun _ => c58, fun _ => b01_1.mp c66⟩)).symm
                    | exact (b01_f (fun q => c58 (((rF_iff (fun h => c35 (hs2.mpr h))).mp q).mp (b01_n.mp c66)))).symm
                    | exact (b01_t ((rF_iff (fun h => c35 (hs2.mpr h))).mpr ⟨fun h => absurd h (b01_0.mp c66), fun h => absurd h c58⟩)).symm)
    refine V_iload_n dX8_seatsFrom_0 rfl ?_
    refine V_aload_n dX8_seatsFrom_1 rfl ?_
    refine V_getr (b := 174) 8 1 dX8_seatsFrom_2 (Or.inl lkX8_9) rfl rfl ⟨by omega, by omega⟩ (hR _ _ _ rfl) ?_
    refine V_bipush (v := 12) dX8_seatsFrom_5 rfl ?_
    refine V_iald (len := 938) 12 dX8_seatsFrom_7 rfl ⟨by omega, by omega⟩ (by decide) (by omega) ?_
    refine V_icmp_ne (tgt := 17) dX8_seatsFrom_8 (by decide) (fun c8 => ?_) (fun c8 => absurd ((eq_nat hx hN).mp c8) (by omega))
    refine V_iconst (v := 0) dX8_seatsFrom_17 rfl ?_
    refine V_istore_n (L' := [_, _, _, _, _]) dX8_seatsFrom_18 (by decide) rfl rfl ?_
    exact loop (W + 1) 0 mi _ _ (by omega) (by decide) Off.rf hBS
theorem lvs_congr {F G : Nat → Nat → Bool} {C D : (Nat → Nat) → Int} {W : Nat} : ∀ {m p : Nat} {lf s : Nat → Nat} {hv : Nat}, (∀ q k, p ≤ q → q < p + m → F q k = G q k) → (∀ f, C f = D f) → lvs F C W m p lf s hv = lvs G D W m p lf s hv
  | 0, p, lf, s, hv, _, h2 => by
    show [(C s, hv, s)] = [(D s, hv, s)]
    rw [h2]
  | m + 1, p, lf, s, hv, h1, h2 => by
    show alts _ (W + 1) 0 = alts _ (W + 1) 0
    refine alts_congr (fun k _ _ => ?_)
    rw [h1 p k (Nat.le_refl _) (by omega), lvs_congr (fun q k q1 q2 => h1 q k (by omega) (by omega)) h2]
noncomputable def qNB (S : Nat → Int32) (nc : Nat) (e : Nat → Nat) (s nv : Nat → Int32) : Nat → Nat → Int := qN S nc e s nv
theorem qN_B {S : Nat → Int32} {nc : Nat} {e : Nat → Nat} {s nv : Nat → Int32} {sort : Nat} : (fun p k => if sort = 2 then qN S nc e s nv p k else 0) = qB S nc e s nv sort := rfl
theorem qAN_ok {S : Nat → Int32} {c : CT} {nc : Nat} {e : Nat → Nat} {s nv : Nat → Int32} {b : Nat} (hB : BD S c) (h : MV S nc e s nv b) : okAB (cN c) (cW c) (qA S) (qN S nc e s nv) := fun q k hq hk => by
  have h1 := sAge_bd (y := sCh k) hB hq (sCh_in hk hB.1.2.1.2)
  have h2 := sNerve_bd (p := q) (x := nI q) (y := sCh k) h
  exact ⟨h1, h2.1, by show (sNerve S nc e s nv q (nI q) (sCh k)).toInt ≤ 9000; omega⟩
/-- the best as the reference finds it -/
noncomputable def rBest (S : Nat → Int32) (c : CT) (nc : Nat) (e : Nat → Nat) (s nv : Nat → Int32) (sort : Nat) (set : Int32) : Option Cand := fdB none (lvs (rF sort set (qHere S)) (cCost sort (cN c) (qA S) (qB S nc e s nv sort)) (cW c) (cN c) 0 (qL S) qZ 0)
set_option maxRecDepth 4000 in
theorem qX8_looksForSeating (n : Nat) (mi : MI) (mr : MR) (c : CT) (hR : RF mr) (hn : 186 ≤ n) (hBD : BD (mi 174) c) (nc : Nat) (e : Nat → Nat) (s nv : Nat → Int32) (b : Nat) (hMV : MV (mi 174) nc e s nv b) (sort : Nat) (hs3 : sort < 3) (a set : Int32) (ha : a = nI sort) : Ct KX8_looksForSeating 11 0 0 [.ref 173, .int a, .int set] n mi mr (fun r n' mi' mr' => none = r ∧ n = n' ∧ mr = mr' ∧ Off scrM mi mi' ∧ BSm (cN c) mi' (rBest (mi 174) c nc e s nv sort set)) := by
  refine Ct.of2 [some (.ref 173), some (.int a), some (.int set)] (by decide +kernel) (Nat.le_of_ble_eq_true rfl) rfl ?_
  obtain ⟨⟨hN, hN6⟩, ⟨hW, hW5⟩, ⟨hL, hL5⟩, ⟨hT, hT100⟩, ⟨hS, hS5⟩, ⟨hP, hP8⟩, ⟨hBk, hB8⟩⟩ := hBD.1
  refine V_aload_n dX8_looksForSeating_0 rfl ?_
  refine V_callV (ci := 8) (qX8_looksForSeats n mi mr c hR hn hBD nc e s nv b hMV) dX8_looksForSeating_1 mlX8_228 mtX8_looksForSeats ivX8_looksForSeats rfl rfl ⟨by omega, by omega⟩ (by decide) rfl rfl (by decide) (Nat.le_of_ble_eq_true rfl) rfl rfl ?_
  rintro _ _ m0 _ ⟨rfl, rfl, rfl, ho0, htab, hl0⟩
  have e174 : m0 174 = mi 174 := ho0.fn (fun k => by unfold offT; omega)
  refine V_aload_n dX8_looksForSeating_4 rfl ?_
  refine V_iload_n dX8_looksForSeating_5 rfl ?_
  refine V_puti 8 18 dX8_looksForSeating_6 (Or.inl lkX8_204) rfl rfl rfl rfl ⟨by omega, by omega⟩ ?_
  refine V_aload_n dX8_looksForSeating_9 rfl ?_
  refine V_iload_n dX8_looksForSeating_10 rfl ?_
  refine V_puti 8 19 dX8_looksForSeating_11 (Or.inl lkX8_222) rfl rfl rfl rfl ⟨by omega, by omega⟩ ?_
  refine V_aload_n dX8_looksForSeating_14 rfl ?_
  refine V_iconst (v := -1) dX8_looksForSeating_15 rfl ?_
  refine V_puti 8 20 dX8_looksForSeating_16 (Or.inl lkX8_213) rfl rfl rfl rfl ⟨by omega, by omega⟩ ?_
  refine V_aload_n dX8_looksForSeating_19 rfl ?_
  refine V_iconst (v := 0) dX8_looksForSeating_20 rfl ?_
  refine V_iconst (v := 0) dX8_looksForSeating_21 rfl ?_
  have hSR : SQm sort (cN c) (cW c) set (qHere (mi 174)) (qA (mi 174)) (qN (mi 174) nc e s nv) (up2 (up2 (up2 m0 173 18 a) 173 19 set) 173 20 (-1)) := by
    refine ⟨⟨?_, hN6⟩, ⟨?_, hW5⟩, ⟨?_, hs3⟩, ?_, fun q k hq hk => ?_⟩
    · rw [up2_row (by decide), up2_row (by decide), up2_row (by decide), e174]; exact hN
    · rw [up2_row (by decide), up2_row (by decide), up2_row (by decide), e174]; exact hW
    · rw [up2_keep (by decide), up2_keep (by decide), up2_s]; exact ha
    · rw [up2_keep (by decide), up2_s]
    · have t := htab q k hq hk
      rw [up2_row (b := 179) (by decide), up2_row (b := 179) (by decide), up2_row (b := 179) (by decide), up2_row (b := 184) (by decide), up2_row (b := 184) (by decide), up2_row (b := 184) (by decide), up2_row (b := 180) (by decide), up2_row (b := 180) (by decide), up2_row (b := 180) (by decide), t.1, t.2.1, t.2.2]
      exact ⟨rfl, rfl, rfl⟩
  have hLF : LFm (cW c) (qL (mi 174)) (up2 (up2 (up2 m0 173 18 a) 173 19 set) 173 20 (-1)) := fun k hk => by
    obtain ⟨v, v1, v2⟩ := (hBD.2.2.2.2.1 k (by omega)).2
    rw [up2_row (by decide), up2_row (by decide), up2_row (by decide), hl0 k hk]
    show _ = ((mi 174 (7 + k)).toNatClampNeg : Int) ∧ (mi 174 (7 + k)).toNatClampNeg ≤ 100
    rw [nat_of_toInt v1]
    exact ⟨v1, by omega⟩
  refine V_callV (ci := 8) (qX8_seatsFrom n mr hR hn sort (cN c) (cW c) set (qHere (mi 174)) (qA (mi 174)) (qN (mi 174) nc e s nv) (qAN_ok hBD hMV) (cN c) 0 _ 0 0 0 none (qL (mi 174)) qZ (Nat.zero_add _) hSR hLF hN6 (fun q hq => absurd hq (Nat.not_lt_zero q)) up2_s (by decide) (by decide) (Nat.le_refl _) (fun q hq => absurd hq (Nat.not_lt_zero q))) dX8_looksForSeating_22 mlX8_225 mtX8_seatsFrom ivX8_seatsFrom rfl rfl ⟨by omega, by omega⟩ (by decide) rfl rfl (by omega) (Nat.le_of_ble_eq_true rfl) rfl rfl ?_
  rintro _ _ m9 _ ⟨rfl, rfl, rfl, ho9, hb9⟩
  refine V_ret dX8_looksForSeating_25 rfl ?_
  refine ⟨rfl, rfl, rfl, fun a k h => ?_, hb9⟩
  unfold scrM at h
  rw [ho9 a k (by unfold offU; omega), up2_keep (by omega), up2_keep (by omega), up2_keep (by omega)]
  exact ho0 a k (by unfold offT; omega)
