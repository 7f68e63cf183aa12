abbrev sFacts (S : Nat → Int32) (p : Nat) (x y : Int32) : Nat → Int32 := nFacts x (S (20 + p)) (S (26 + p)) (sAge S p y) (sStage S p (sAge S p y)) (hFact y)
theorem mv_le {e : Nat → Nat} {nc : Nat} (h : ∀ k, k < nc → e k ≤ 100) : vFrom e nc ≤ 100 := by
  cases nc with
  | zero => exact Nat.zero_le _
  | succ k => exact h k (by omega)
theorem mv_mono {e : Nat → Nat} {nc : Nat} (h : ∀ k, k < nc → vFrom e k ≤ e k) {k : Nat} (hk : k < nc) : e k ≤ vFrom e nc := by
  have g : ∀ m, k + 1 + m ≤ nc → e k ≤ vFrom e (k + 1 + m) := fun m => by
    induction m with
    | zero => exact fun _ => Nat.le_refl _
    | succ m ih =>
      intro h1
      have h2 := h (k + 1 + m) (by omega)
      have h3 := ih (by omega)
      show e k ≤ e (k + 1 + m)
      omega
  have q := g (nc - (k + 1)) (by omega)
  rw [show k + 1 + (nc - (k + 1)) = nc by omega] at q
  exact q
set_option maxRecDepth 4000 in
theorem lk_not {Q : QT} (n : Nat) (m : MI) (mr : MR) (hR : RF mr) (hn : 186 ≤ n) (x y ag sm mn fr tp i : Int32) (z9 z10 z11 z12 : Option Value) (ib : Nat) (hi : i.toInt = (ib : Int)) (hib : ib < 938) (hlt : ¬ fr + mn ≤ i) (d : Nat) (htp : tp.toInt = ((d + 1 : Nat) : Int)) (hd : d + 1 ≤ 30) (hst : m 174 ib = -1) (hc : ∀ (v : Int32) (z9 z10 z11 z12 : Option Value), v = b01 (m 178 d = 0) → V KX8_looks 4 0 0 Q 128 [some (.ref 173), some (.int x), some (.int y), some (.int ag), some (.int sm), some (.int mn), some (.int fr), some (.int tp), some (.int (i + 1)), z9, z10, z11, z12] [] n (up2 m 178 d v) mr) : V KX8_looks 4 0 0 Q 128 [some (.ref 173), some (.int x), some (.int y), some (.int ag), some (.int sm), some (.int mn), some (.int fr), some (.int tp), some (.int i), z9, z10, z11, z12] [] n m mr := by
  refine V_iload dX8_looks_128 rfl ?_
  refine V_iload dX8_looks_130 rfl ?_
  refine V_iload dX8_looks_132 rfl ?_
  refine V_iadd dX8_looks_134 ?_
  refine V_icmp_ge (tgt := 439) dX8_looks_135 (by decide) (fun c135 => absurd c135 hlt) (fun c135 => ?_)
  refine V_aload_n dX8_looks_138 rfl ?_
  refine V_getr (b := 174) 8 1 dX8_looks_139 (Or.inl lkX8_9) rfl rfl ⟨by omega, by omega⟩ (hR _ _ _ rfl) ?_
  refine V_iload dX8_looks_142 rfl ?_
  refine V_iald (len := 938) ib dX8_looks_144 rfl ⟨by omega, by omega⟩ hi (by omega) ?_
  rw [hst]
  refine V_istore (L' := [_, _, _, _, _, _, _, _, _, _, _, _, _]) dX8_looks_145 (by decide) rfl rfl ?_
  refine V_iload dX8_looks_147 rfl ?_
  refine V_if_lt (tgt := 246) dX8_looks_149 (by decide) (fun c149 => ?_) (fun c149 => absurd (by decide) c149)
  refine V_iload dX8_looks_246 rfl ?_
  refine V_iconst (v := -1) dX8_looks_248 rfl ?_
  refine V_icmp_ne (tgt := 281) dX8_looks_249 (by decide) (fun c249 => absurd rfl c249) (fun c249 => ?_)
  refine V_aload_n dX8_looks_252 rfl ?_
  refine V_getr (b := 178) 8 11 dX8_looks_253 (Or.inl lkX8_24) rfl rfl ⟨by omega, by omega⟩ (hR _ _ _ rfl) ?_
  refine V_iload dX8_looks_256 rfl ?_
  refine V_iconst (v := 1) dX8_looks_258 rfl ?_
  refine V_isub dX8_looks_259 ?_
  refine V_aload_n dX8_looks_260 rfl ?_
  refine V_getr (b := 178) 8 11 dX8_looks_261 (Or.inl lkX8_24) rfl rfl ⟨by omega, by omega⟩ (hR _ _ _ rfl) ?_
  refine V_iload dX8_looks_264 rfl ?_
  refine V_iconst (v := 1) dX8_looks_266 rfl ?_
  refine V_isub dX8_looks_267 ?_
  refine V_zald (len := 64) d dX8_looks_268 rfl ⟨by omega, by omega⟩ (ix_sub htp (b := 1) (by decide) (by omega)) (by omega) ?_
  refine V_if_ne (tgt := 276) dX8_looks_269 (by decide) (fun c269 => ?_) (fun n269 => ?_)
  · refine V_iconst (v := 0) dX8_looks_276 rfl ?_
    refine V_zast (len := 64) d dX8_looks_277 rfl ⟨by omega, by omega⟩ (ix_sub htp (b := 1) (by decide) (by omega)) (by omega) rfl ?_
    refine V_goto (tgt := 433) dX8_looks_278 (by decide) ?_
    refine V_iinc (v := _ + (1)) (L' := [_, _, _, _, _, _, _, _, _, _, _, _, _]) dX8_looks_433 (by decide) rfl rfl rfl rfl ?_
    refine V_goto (tgt := 128) dX8_looks_436 (by decide) ?_
    refine hc _ _ _ _ _ (Eq.symm ?_)
    first
      | exact b01_t n269
      | exact b01_f c269
  · refine V_iconst (v := 1) dX8_looks_272 rfl ?_
    refine V_goto (tgt := 277) dX8_looks_273 (by decide) ?_
    refine V_zast (len := 64) d dX8_looks_277 rfl ⟨by omega, by omega⟩ (ix_sub htp (b := 1) (by decide) (by omega)) (by omega) rfl ?_
    refine V_goto (tgt := 433) dX8_looks_278 (by decide) ?_
    refine V_iinc (v := _ + (1)) (L' := [_, _, _, _, _, _, _, _, _, _, _, _, _]) dX8_looks_433 (by decide) rfl rfl rfl rfl ?_
    refine V_goto (tgt := 128) dX8_looks_436 (by decide) ?_
    refine hc _ _ _ _ _ (Eq.symm ?_)
    first
      | exact b01_t n269
      | exact b01_f c269
theorem tp_down {tp : Int32} {d : Nat} (htp : tp.toInt = ((d + 2 : Nat) : Int)) (hd : d + 2 ≤ 30) : (tp + (-1)).toInt = ((d + 1 : Nat) : Int) ∧ (tp + (-1) - 1).toInt = ((d : Nat) : Int) := by
  have h1 : (tp + (-1)).toInt = ((d + 1 : Nat) : Int) := by
    rw [Int32.toInt_add, htp, bmod_id (by simp only [Int32.reduceToInt]; omega) (by simp only [Int32.reduceToInt]; omega)]
    simp only [Int32.reduceToInt]
    omega
  exact ⟨h1, ix_sub h1 (b := 1) (by decide) (by omega)⟩
set_option maxRecDepth 4000 in
theorem lk_and {Q : QT} (n : Nat) (m : MI) (mr : MR) (hR : RF mr) (hn : 186 ≤ n) (x y ag sm mn fr tp i : Int32) (z9 z10 z11 z12 : Option Value) (ib : Nat) (hi : i.toInt = (ib : Int)) (hib : ib < 938) (hlt : ¬ fr + mn ≤ i) (d : Nat) (htp : tp.toInt = ((d + 2 : Nat) : Int)) (hd : d + 2 ≤ 30) (hst : m 174 ib = -2) (hc : ∀ (v : Int32) (z9 z10 z11 z12 : Option Value), v = b01 (¬ m 178 d = 0 ∧ ¬ m 178 (d + 1) = 0) → V KX8_looks 4 0 0 Q 128 [some (.ref 173), some (.int x), some (.int y), some (.int ag), some (.int sm), some (.int mn), some (.int fr), some (.int (tp + (-1))), some (.int (i + 1)), z9, z10, z11, z12] [] n (up2 m 178 d v) mr) : V KX8_looks 4 0 0 Q 128 [some (.ref 173), some (.int x), some (.int y), some (.int ag), some (.int sm), some (.int mn), some (.int fr), some (.int tp), some (.int i), z9, z10, z11, z12] [] n m mr := by
  refine V_iload dX8_looks_128 rfl ?_
  refine V_iload dX8_looks_130 rfl ?_
  refine V_iload dX8_looks_132 rfl ?_
  refine V_iadd dX8_looks_134 ?_
  refine V_icmp_ge (tgt := 439) dX8_looks_135 (by decide) (fun c135 => absurd c135 hlt) (fun c135 => ?_)
  refine V_aload_n dX8_looks_138 rfl ?_
  refine V_getr (b := 174) 8 1 dX8_looks_139 (Or.inl lkX8_9) rfl rfl ⟨by omega, by omega⟩ (hR _ _ _ rfl) ?_
  refine V_iload dX8_looks_142 rfl ?_
  refine V_iald (len := 938) ib dX8_looks_144 rfl ⟨by omega, by omega⟩ hi (by omega) ?_
  rw [hst]
  refine V_istore (L' := [_, _, _, _, _, _, _, _, _, _, _, _, _]) dX8_looks_145 (by decide) rfl rfl ?_
  refine V_iload dX8_looks_147 rfl ?_
  refine V_if_lt (tgt := 246) dX8_looks_149 (by decide) (fun c149 => ?_) (fun c149 => absurd (by decide) c149)
  refine V_iload dX8_looks_246 rfl ?_
  refine V_iconst (v := -1) dX8_looks_248 rfl ?_
  refine V_icmp_ne (tgt := 281) dX8_looks_249 (by decide) (fun c249 => ?_) (fun c249 => absurd c249 (by decide))
  refine V_iload dX8_looks_281 rfl ?_
  refine V_bipush (v := -10) dX8_looks_283 rfl ?_
  refine V_icmp_le (tgt := 367) dX8_looks_285 (by decide) (fun c285 => absurd c285 (by decide)) (fun c285 => ?_)
  obtain ⟨hdm, hdn⟩ := tp_down htp hd
  refine V_iinc (v := _ + (-1)) (L' := [_, _, _, _, _, _, _, _, _, _, _, _, _]) dX8_looks_288 (by decide) rfl rfl rfl rfl ?_
  refine V_aload_n dX8_looks_291 rfl ?_
  refine V_getr (b := 178) 8 11 dX8_looks_292 (Or.inl lkX8_24) rfl rfl ⟨by omega, by omega⟩ (hR _ _ _ rfl) ?_
  refine V_iload dX8_looks_295 rfl ?_
  refine V_iconst (v := 1) dX8_looks_297 rfl ?_
  refine V_isub dX8_looks_298 ?_
  refine V_iload dX8_looks_299 rfl ?_
  refine V_bipush (v := -2) dX8_looks_301 rfl ?_
  refine V_icmp_ne (tgt := 336) dX8_looks_303 (by decide) (fun c303 => absurd rfl c303) (fun c303 => ?_)
  refine V_aload_n dX8_looks_306 rfl ?_
  refine V_getr (b := 178) 8 11 dX8_looks_307 (Or.inl lkX8_24) rfl rfl ⟨by omega, by omega⟩ (hR _ _ _ rfl) ?_
  refine V_iload dX8_looks_310 rfl ?_
  refine V_iconst (v := 1) dX8_looks_312 rfl ?_
  refine V_isub dX8_looks_313 ?_
  refine V_zald (len := 64) d dX8_looks_314 rfl ⟨by omega, by omega⟩ hdn (by omega) ?_
  refine V_if_eq (tgt := 332) dX8_looks_315 (by decide) (fun c315 => ?_) (fun n315 => ?_)
  · refine V_iconst (v := 0) dX8_looks_332 rfl ?_
    refine V_goto (tgt := 363) dX8_looks_333 (by decide) ?_
    refine V_zast (len := 64) d dX8_looks_363 rfl ⟨by omega, by omega⟩ hdn (by omega) rfl ?_
    refine V_goto (tgt := 433) dX8_looks_364 (by decide) ?_
    refine V_iinc (v := _ + (1)) (L' := [_, _, _, _, _, _, _, _, _, _, _, _, _]) dX8_looks_433 (by decide) rfl rfl rfl rfl ?_
    refine V_goto (tgt := 128) dX8_looks_436 (by decide) ?_
    refine hc _ _ _ _ _ (Eq.symm ?_)
    first
      | exact b01_t (And.intro n315 n325)
      | exact b01_f (fun h => h.1 c315)
      | exact b01_f (fun h => h.2 c325)
  · refine V_aload_n dX8_looks_318 rfl ?_
    refine V_getr (b := 178) 8 11 dX8_looks_319 (Or.inl lkX8_24) rfl rfl ⟨by omega, by omega⟩ (hR _ _ _ rfl) ?_
    refine V_iload dX8_looks_322 rfl ?_
    refine V_zald (len := 64) (d + 1) dX8_looks_324 rfl ⟨by omega, by omega⟩ hdm (by omega) ?_
    refine V_if_eq (tgt := 332) dX8_looks_325 (by decide) (fun c325 => ?_) (fun n325 => ?_)
    · refine V_iconst (v := 0) dX8_looks_332 rfl ?_
      refine V_goto (tgt := 363) dX8_looks_333 (by decide) ?_
      refine V_zast (len := 64) d dX8_looks_363 rfl ⟨by omega, by omega⟩ hdn (by omega) rfl ?_
      refine V_goto (tgt := 433) dX8_looks_364 (by decide) ?_
      refine V_iinc (v := _ + (1)) (L' := [_, _, _, _, _, _, _, _, _, _, _, _, _]) dX8_looks_433 (by decide) rfl rfl rfl rfl ?_
      refine V_goto (tgt := 128) dX8_looks_436 (by decide) ?_
      refine hc _ _ _ _ _ (Eq.symm ?_)
      first
        | exact b01_t (And.intro n315 n325)
        | exact b01_f (fun h => h.1 c315)
        | exact b01_f (fun h => h.2 c325)
    · refine V_iconst (v := 1) dX8_looks_328 rfl ?_
      refine V_goto (tgt := 363) dX8_looks_329 (by decide) ?_
      refine V_zast (len := 64) d dX8_looks_363 rfl ⟨by omega, by omega⟩ hdn (by omega) rfl ?_
      refine V_goto (tgt := 433) dX8_looks_364 (by decide) ?_
      refine V_iinc (v := _ + (1)) (L' := [_, _, _, _, _, _, _, _, _, _, _, _, _]) dX8_looks_433 (by decide) rfl rfl rfl rfl ?_
      refine V_goto (tgt := 128) dX8_looks_436 (by decide) ?_
      refine hc _ _ _ _ _ (Eq.symm ?_)
      first
        | exact b01_t (And.intro n315 n325)
        | exact b01_f (fun h => h.1 c315)
        | exact b01_f (fun h => h.2 c325)
set_option maxRecDepth 4000 in
theorem lk_or {Q : QT} (n : Nat) (m : MI) (mr : MR) (hR : RF mr) (hn : 186 ≤ n) (x y ag sm mn fr tp i : Int32) (z9 z10 z11 z12 : Option Value) (ib : Nat) (hi : i.toInt = (ib : Int)) (hib : ib < 938) (hlt : ¬ fr + mn ≤ i) (d : Nat) (htp : tp.toInt = ((d + 2 : Nat) : Int)) (hd : d + 2 ≤ 30) (hst : m 174 ib = -3) (hc : ∀ (v : Int32) (z9 z10 z11 z12 : Option Value), v = b01 (¬ m 178 d = 0 ∨ ¬ m 178 (d + 1) = 0) → V KX8_looks 4 0 0 Q 128 [some (.ref 173), some (.int x), some (.int y), some (.int ag), some (.int sm), some (.int mn), some (.int fr), some (.int (tp + (-1))), some (.int (i + 1)), z9, z10, z11, z12] [] n (up2 m 178 d v) mr) : V KX8_looks 4 0 0 Q 128 [some (.ref 173), some (.int x), some (.int y), some (.int ag), some (.int sm), some (.int mn), some (.int fr), some (.int tp), some (.int i), z9, z10, z11, z12] [] n m mr := by
  refine V_iload dX8_looks_128 rfl ?_
  refine V_iload dX8_looks_130 rfl ?_
  refine V_iload dX8_looks_132 rfl ?_
  refine V_iadd dX8_looks_134 ?_
  refine V_icmp_ge (tgt := 439) dX8_looks_135 (by decide) (fun c135 => absurd c135 hlt) (fun c135 => ?_)
  refine V_aload_n dX8_looks_138 rfl ?_
  refine V_getr (b := 174) 8 1 dX8_looks_139 (Or.inl lkX8_9) rfl rfl ⟨by omega, by omega⟩ (hR _ _ _ rfl) ?_
  refine V_iload dX8_looks_142 rfl ?_
  refine V_iald (len := 938) ib dX8_looks_144 rfl ⟨by omega, by omega⟩ hi (by omega) ?_
  rw [hst]
  refine V_istore (L' := [_, _, _, _, _, _, _, _, _, _, _, _, _]) dX8_looks_145 (by decide) rfl rfl ?_
  refine V_iload dX8_looks_147 rfl ?_
  refine V_if_lt (tgt := 246) dX8_looks_149 (by decide) (fun c149 => ?_) (fun c149 => absurd (by decide) c149)
  refine V_iload dX8_looks_246 rfl ?_
  refine V_iconst (v := -1) dX8_looks_248 rfl ?_
  refine V_icmp_ne (tgt := 281) dX8_looks_249 (by decide) (fun c249 => ?_) (fun c249 => absurd c249 (by decide))
  refine V_iload dX8_looks_281 rfl ?_
  refine V_bipush (v := -10) dX8_looks_283 rfl ?_
  refine V_icmp_le (tgt := 367) dX8_looks_285 (by decide) (fun c285 => absurd c285 (by decide)) (fun c285 => ?_)
  obtain ⟨hdm, hdn⟩ := tp_down htp hd
  refine V_iinc (v := _ + (-1)) (L' := [_, _, _, _, _, _, _, _, _, _, _, _, _]) dX8_looks_288 (by decide) rfl rfl rfl rfl ?_
  refine V_aload_n dX8_looks_291 rfl ?_
  refine V_getr (b := 178) 8 11 dX8_looks_292 (Or.inl lkX8_24) rfl rfl ⟨by omega, by omega⟩ (hR _ _ _ rfl) ?_
  refine V_iload dX8_looks_295 rfl ?_
  refine V_iconst (v := 1) dX8_looks_297 rfl ?_
  refine V_isub dX8_looks_298 ?_
  refine V_iload dX8_looks_299 rfl ?_
  refine V_bipush (v := -2) dX8_looks_301 rfl ?_
  refine V_icmp_ne (tgt := 336) dX8_looks_303 (by decide) (fun c303 => ?_) (fun c303 => absurd c303 (by decide))
  refine V_aload_n dX8_looks_336 rfl ?_
  refine V_getr (b := 178) 8 11 dX8_looks_337 (Or.inl lkX8_24) rfl rfl ⟨by omega, by omega⟩ (hR _ _ _ rfl) ?_
  refine V_iload dX8_looks_340 rfl ?_
  refine V_iconst (v := 1) dX8_looks_342 rfl ?_
  refine V_isub dX8_looks_343 ?_
  refine V_zald (len := 64) d dX8_looks_344 rfl ⟨by omega, by omega⟩ hdn (by omega) ?_
  refine V_if_ne (tgt := 358) dX8_looks_345 (by decide) (fun c345 => ?_) (fun n345 => ?_)
  · refine V_iconst (v := 1) dX8_looks_358 rfl ?_
    refine V_goto (tgt := 363) dX8_looks_359 (by decide) ?_
    refine V_zast (len := 64) d dX8_looks_363 rfl ⟨by omega, by omega⟩ hdn (by omega) rfl ?_
    refine V_goto (tgt := 433) dX8_looks_364 (by decide) ?_
    refine V_iinc (v := _ + (1)) (L' := [_, _, _, _, _, _, _, _, _, _, _, _, _]) dX8_looks_433 (by decide) rfl rfl rfl rfl ?_
    refine V_goto (tgt := 128) dX8_looks_436 (by decide) ?_
    refine hc _ _ _ _ _ (Eq.symm ?_)
    first
      | exact b01_t (Or.inl c345)
      | exact b01_t (Or.inr n355)
      | exact b01_f (fun h => h.elim (fun g => g n345) (fun g => g c355))
  · refine V_aload_n dX8_looks_348 rfl ?_
    refine V_getr (b := 178) 8 11 dX8_looks_349 (Or.inl lkX8_24) rfl rfl ⟨by omega, by omega⟩ (hR _ _ _ rfl) ?_
    refine V_iload dX8_looks_352 rfl ?_
    refine V_zald (len := 64) (d + 1) dX8_looks_354 rfl ⟨by omega, by omega⟩ hdm (by omega) ?_
    refine V_if_eq (tgt := 362) dX8_looks_355 (by decide) (fun c355 => ?_) (fun n355 => ?_)
    · refine V_iconst (v := 0) dX8_looks_362 rfl ?_
      refine V_zast (len := 64) d dX8_looks_363 rfl ⟨by omega, by omega⟩ hdn (by omega) rfl ?_
      refine V_goto (tgt := 433) dX8_looks_364 (by decide) ?_
      refine V_iinc (v := _ + (1)) (L' := [_, _, _, _, _, _, _, _, _, _, _, _, _]) dX8_looks_433 (by decide) rfl rfl rfl rfl ?_
      refine V_goto (tgt := 128) dX8_looks_436 (by decide) ?_
      refine hc _ _ _ _ _ (Eq.symm ?_)
      first
        | exact b01_t (Or.inl c345)
        | exact b01_t (Or.inr n355)
        | exact b01_f (fun h => h.elim (fun g => g n345) (fun g => g c355))
    · refine V_iconst (v := 1) dX8_looks_358 rfl ?_
      refine V_goto (tgt := 363) dX8_looks_359 (by decide) ?_
      refine V_zast (len := 64) d dX8_looks_363 rfl ⟨by omega, by omega⟩ hdn (by omega) rfl ?_
      refine V_goto (tgt := 433) dX8_looks_364 (by decide) ?_
      refine V_iinc (v := _ + (1)) (L' := [_, _, _, _, _, _, _, _, _, _, _, _, _]) dX8_looks_433 (by decide) rfl rfl rfl rfl ?_
      refine V_goto (tgt := 128) dX8_looks_436 (by decide) ?_
      refine hc _ _ _ _ _ (Eq.symm ?_)
      first
        | exact b01_t (Or.inl c345)
        | exact b01_t (Or.inr n355)
        | exact b01_f (fun h => h.elim (fun g => g n345) (fun g => g c355))
def pushP (g : Nat → Int32) (fq : Nat) (ho nn : Int32) : Prop := if ho = 0 then g fq < nn else if ho = 1 then g fq = nn else nn < g fq
noncomputable def pushB (g : Nat → Int32) (fq : Nat) (ho nn : Int32) : Int32 := by
  classical exact if pushP g fq ho nn then 1 else 0
theorem pushB_t {g : Nat → Int32} {fq : Nat} {ho nn : Int32} (h : pushP g fq ho nn) : pushB g fq ho nn = 1 := if_pos h
theorem pushB_f {g : Nat → Int32} {fq : Nat} {ho nn : Int32} (h : ¬ pushP g fq ho nn) : pushB g fq ho nn = 0 := if_neg h
theorem pushP_0 {g : Nat → Int32} {fq : Nat} {ho nn : Int32} (h : ho = 0) : pushP g fq ho nn ↔ g fq < nn := by unfold pushP; rw [if_pos h]
theorem pushP_1 {g : Nat → Int32} {fq : Nat} {ho nn : Int32} (h0 : ¬ ho = 0) (h : ho = 1) : pushP g fq ho nn ↔ g fq = nn := by unfold pushP; rw [if_neg h0, if_pos h]
theorem pushP_2 {g : Nat → Int32} {fq : Nat} {ho nn : Int32} (h0 : ¬ ho = 0) (h : ¬ ho = 1) : pushP g fq ho nn ↔ nn < g fq := by unfold pushP; rw [if_neg h0, if_neg h]
set_option maxRecDepth 4000 in
theorem lk_push {Q : QT} (n : Nat) (m : MI) (mr : MR) (hR : RF mr) (hn : 186 ≤ n) (x y ag sm mn fr tp i : Int32) (z9 z10 z11 z12 : Option Value) (ib : Nat) (hi : i.toInt = (ib : Int)) (hib : ib < 938) (hlt : ¬ fr + mn ≤ i) (d : Nat) (htp : tp.toInt = (d : Int)) (hd : d < 30) (tk : Int32) (hst : m 174 ib = tk) (t0 : 0 ≤ tk) (fq : Nat) (hfq : fq < 6) (ho nn : Int32) (t1 : tk - tk / 8 * 8 = nI fq) (t2 : tk / 8 - tk / 8 / 4 * 4 = ho) (t3 : tk / 32 = nn) (hc : ∀ (v : Int32) (z9 z10 z11 z12 : Option Value), v = pushB (m 177) fq ho nn → V KX8_looks 4 0 0 Q 128 [some (.ref 173), some (.int x), some (.int y), some (.int ag), some (.int sm), some (.int mn), some (.int fr), some (.int (tp + 1)), some (.int (i + 1)), z9, z10, z11, z12] [] n (up2 m 178 d v) mr) : V KX8_looks 4 0 0 Q 128 [some (.ref 173), some (.int x), some (.int y), some (.int ag), some (.int sm), some (.int mn), some (.int fr), some (.int tp), some (.int i), z9, z10, z11, z12] [] n m mr := by
  refine V_iload dX8_looks_128 rfl ?_
  refine V_iload dX8_looks_130 rfl ?_
  refine V_iload dX8_looks_132 rfl ?_
  refine V_iadd dX8_looks_134 ?_
  refine V_icmp_ge (tgt := 439) dX8_looks_135 (by decide) (fun c135 => absurd c135 hlt) (fun c135 => ?_)
  refine V_aload_n dX8_looks_138 rfl ?_
  refine V_getr (b := 174) 8 1 dX8_looks_139 (Or.inl lkX8_9) rfl rfl ⟨by omega, by omega⟩ (hR _ _ _ rfl) ?_
  refine V_iload dX8_looks_142 rfl ?_
  refine V_iald (len := 938) ib dX8_looks_144 rfl ⟨by omega, by omega⟩ hi (by omega) ?_
  rw [hst]
  refine V_istore (L' := [_, _, _, _, _, _, _, _, _, _, _, _, _]) dX8_looks_145 (by decide) rfl rfl ?_
  refine V_iload dX8_looks_147 rfl ?_
  refine V_if_lt (tgt := 246) dX8_looks_149 (by decide) (fun c149 => absurd c149 (Int32.not_lt.mpr t0)) (fun c149 => ?_)
  refine V_aload_n dX8_looks_152 rfl ?_
  refine V_getr (b := 177) 8 10 dX8_looks_153 (Or.inl lkX8_21) rfl rfl ⟨by omega, by omega⟩ (hR _ _ _ rfl) ?_
  refine V_iload dX8_looks_156 rfl ?_
  refine V_bipush (v := 8) dX8_looks_158 rfl ?_
  refine V_irem dX8_looks_160 (by decide) ?_
  rw [t1]
  refine V_iald (len := 6) fq dX8_looks_161 rfl ⟨by omega, by omega⟩ (nI_toInt (by omega)) (by omega) ?_
  refine V_istore (L' := [_, _, _, _, _, _, _, _, _, _, _, _, _]) dX8_looks_162 (by decide) rfl rfl ?_
  refine V_iload dX8_looks_164 rfl ?_
  refine V_bipush (v := 8) dX8_looks_166 rfl ?_
  refine V_idiv dX8_looks_168 (by decide) ?_
  refine V_iconst (v := 4) dX8_looks_169 rfl ?_
  refine V_irem dX8_looks_170 (by decide) ?_
  rw [t2]
  refine V_istore (L' := [_, _, _, _, _, _, _, _, _, _, _, _, _]) dX8_looks_171 (by decide) rfl rfl ?_
  refine V_iload dX8_looks_173 rfl ?_
  refine V_bipush (v := 32) dX8_looks_175 rfl ?_
  refine V_idiv dX8_looks_177 (by decide) ?_
  rw [t3]
  refine V_istore (L' := [_, _, _, _, _, _, _, _, _, _, _, _, _]) dX8_looks_178 (by decide) rfl rfl ?_
  refine V_aload_n dX8_looks_180 rfl ?_
  refine V_getr (b := 178) 8 11 dX8_looks_181 (Or.inl lkX8_24) rfl rfl ⟨by omega, by omega⟩ (hR _ _ _ rfl) ?_
  refine V_iload dX8_looks_184 rfl ?_
  refine V_iload dX8_looks_186 rfl ?_
  refine V_if_ne (tgt := 206) dX8_looks_188 (by decide) (fun c188 => ?_) (fun n188 => ?_)
  · refine V_iload dX8_looks_206 rfl ?_
    refine V_iconst (v := 1) dX8_looks_208 rfl ?_
    refine V_icmp_ne (tgt := 227) dX8_looks_209 (by decide) (fun c209 => ?_) (fun n209 => ?_)
    · refine V_iload dX8_looks_227 rfl ?_
      refine V_iload dX8_looks_229 rfl ?_
      refine V_icmp_le (tgt := 238) dX8_looks_231 (by decide) (fun c231 => ?_) (fun n231 => ?_)
      · refine V_iconst (v := 0) dX8_looks_238 rfl ?_
        refine V_zast (len := 64) d dX8_looks_239 rfl ⟨by omega, by omega⟩ htp (by omega) rfl ?_
        refine V_iinc (v := _ + (1)) (L' := [_, _, _, _, _, _, _, _, _, _, _, _, _]) dX8_looks_240 (by decide) rfl rfl rfl rfl ?_
        refine V_goto (tgt := 433) dX8_looks_243 (by decide) ?_
        refine V_iinc (v := _ + (1)) (L' := [_, _, _, _, _, _, _, _, _, _, _, _, _]) dX8_looks_433 (by decide) rfl rfl rfl rfl ?_
        refine V_goto (tgt := 128) dX8_looks_436 (by decide) ?_
        refine hc _ _ _ _ _ (Eq.symm ?_)
        first
          | exact pushB_t ((pushP_0 n188).mpr (Int32.not_le.mp n195))
          | exact pushB_f (fun h => absurd ((pushP_0 n188).mp h) (Int32.not_lt.mpr c195))
          | exact pushB_t ((pushP_1 c188 n209).mpr n216)
          | exact pushB_f (fun h => c216 ((pushP_1 c188 n209).mp h))
          | exact pushB_t ((pushP_2 c188 c209).mpr (Int32.not_le.mp n231))
          | exact pushB_f (fun h => absurd ((pushP_2 c188 c209).mp h) (Int32.not_lt.mpr c231))
      · refine V_iconst (v := 1) dX8_looks_234 rfl ?_
        refine V_goto (tgt := 239) dX8_looks_235 (by decide) ?_
        refine V_zast (len := 64) d dX8_looks_239 rfl ⟨by omega, by omega⟩ htp (by omega) rfl ?_
        refine V_iinc (v := _ + (1)) (L' := [_, _, _, _, _, _, _, _, _, _, _, _, _]) dX8_looks_240 (by decide) rfl rfl rfl rfl ?_
        refine V_goto (tgt := 433) dX8_looks_243 (by decide) ?_
        refine V_iinc (v := _ + (1)) (L' := [_, _, _, _, _, _, _, _, _, _, _, _, _]) dX8_looks_433 (by decide) rfl rfl rfl rfl ?_
        refine V_goto (tgt := 128) dX8_looks_436 (by decide) ?_
        refine hc _ _ _ _ _ (Eq.symm ?_)
        first
          | exact pushB_t ((pushP_0 n188).mpr (Int32.not_le.mp n195))
          | exact pushB_f (fun h => absurd ((pushP_0 n188).mp h) (Int32.not_lt.mpr c195))
          | exact pushB_t ((pushP_1 c188 n209).mpr n216)
          | exact pushB_f (fun h => c216 ((pushP_1 c188 n209).mp h))
          | exact pushB_t ((pushP_2 c188 c209).mpr (Int32.not_le.mp n231))
          | exact pushB_f (fun h => absurd ((pushP_2 c188 c209).mp h) (Int32.not_lt.mpr c231))
    · refine V_iload dX8_looks_212 rfl ?_
      refine V_iload dX8_looks_214 rfl ?_
      refine V_icmp_ne (tgt := 223) dX8_looks_216 (by decide) (fun c216 => ?_) (fun n216 => ?_)
      · refine V_iconst (v := 0) dX8_looks_223 rfl ?_
        refine V_goto (tgt := 239) dX8_looks_224 (by decide) ?_
        refine V_zast (len := 64) d dX8_looks_239 rfl ⟨by omega, by omega⟩ htp (by omega) rfl ?_
        refine V_iinc (v := _ + (1)) (L' := [_, _, _, _, _, _, _, _, _, _, _, _, _]) dX8_looks_240 (by decide) rfl rfl rfl rfl ?_
        refine V_goto (tgt := 433) dX8_looks_243 (by decide) ?_
        refine V_iinc (v := _ + (1)) (L' := [_, _, _, _, _, _, _, _, _, _, _, _, _]) dX8_looks_433 (by decide) rfl rfl rfl rfl ?_
        refine V_goto (tgt := 128) dX8_looks_436 (by decide) ?_
        refine hc _ _ _ _ _ (Eq.symm ?_)
        first
          | exact pushB_t ((pushP_0 n188).mpr (Int32.not_le.mp n195))
          | exact pushB_f (fun h => absurd ((pushP_0 n188).mp h) (Int32.not_lt.mpr c195))
          | exact pushB_t ((pushP_1 c188 n209).mpr n216)
          | exact pushB_f (fun h => c216 ((pushP_1 c188 n209).mp h))
          | exact pushB_t ((pushP_2 c188 c209).mpr (Int32.not_le.mp n231))
          | exact pushB_f (fun h => absurd ((pushP_2 c188 c209).mp h) (Int32.not_lt.mpr c231))
      · refine V_iconst (v := 1) dX8_looks_219 rfl ?_
        refine V_goto (tgt := 239) dX8_looks_220 (by decide) ?_
        refine V_zast (len := 64) d dX8_looks_239 rfl ⟨by omega, by omega⟩ htp (by omega) rfl ?_
        refine V_iinc (v := _ + (1)) (L' := [_, _, _, _, _, _, _, _, _, _, _, _, _]) dX8_looks_240 (by decide) rfl rfl rfl rfl ?_
        refine V_goto (tgt := 433) dX8_looks_243 (by decide) ?_
        refine V_iinc (v := _ + (1)) (L' := [_, _, _, _, _, _, _, _, _, _, _, _, _]) dX8_looks_433 (by decide) rfl rfl rfl rfl ?_
        refine V_goto (tgt := 128) dX8_looks_436 (by decide) ?_
        refine hc _ _ _ _ _ (Eq.symm ?_)
        first
          | exact pushB_t ((pushP_0 n188).mpr (Int32.not_le.mp n195))
          | exact pushB_f (fun h => absurd ((pushP_0 n188).mp h) (Int32.not_lt.mpr c195))
          | exact pushB_t ((pushP_1 c188 n209).mpr n216)
          | exact pushB_f (fun h => c216 ((pushP_1 c188 n209).mp h))
          | exact pushB_t ((pushP_2 c188 c209).mpr (Int32.not_le.mp n231))
          | exact pushB_f (fun h => absurd ((pushP_2 c188 c209).mp h) (Int32.not_lt.mpr c231))
  · refine V_iload dX8_looks_191 rfl ?_
    refine V_iload dX8_looks_193 rfl ?_
    refine V_icmp_ge (tgt := 202) dX8_looks_195 (by decide) (fun c195 => ?_) (fun n195 => ?_)
    · refine V_iconst (v := 0) dX8_looks_202 rfl ?_
      refine V_goto (tgt := 239) dX8_looks_203 (by decide) ?_
      refine V_zast (len := 64) d dX8_looks_239 rfl ⟨by omega, by omega⟩ htp (by omega) rfl ?_
      refine V_iinc (v := _ + (1)) (L' := [_, _, _, _, _, _, _, _, _, _, _, _, _]) dX8_looks_240 (by decide) rfl rfl rfl rfl ?_
      refine V_goto (tgt := 433) dX8_looks_243 (by decide) ?_
      refine V_iinc (v := _ + (1)) (L' := [_, _, _, _, _, _, _, _, _, _, _, _, _]) dX8_looks_433 (by decide) rfl rfl rfl rfl ?_
      refine V_goto (tgt := 128) dX8_looks_436 (by decide) ?_
      refine hc _ _ _ _ _ (Eq.symm ?_)
      first
        | exact pushB_t ((pushP_0 n188).mpr (Int32.not_le.mp n195))
        | exact pushB_f (fun h => absurd ((pushP_0 n188).mp h) (Int32.not_lt.mpr c195))
        | exact pushB_t ((pushP_1 c188 n209).mpr n216)
        | exact pushB_f (fun h => c216 ((pushP_1 c188 n209).mp h))
        | exact pushB_t ((pushP_2 c188 c209).mpr (Int32.not_le.mp n231))
        | exact pushB_f (fun h => absurd ((pushP_2 c188 c209).mp h) (Int32.not_lt.mpr c231))
    · refine V_iconst (v := 1) dX8_looks_198 rfl ?_
      refine V_goto (tgt := 239) dX8_looks_199 (by decide) ?_
      refine V_zast (len := 64) d dX8_looks_239 rfl ⟨by omega, by omega⟩ htp (by omega) rfl ?_
      refine V_iinc (v := _ + (1)) (L' := [_, _, _, _, _, _, _, _, _, _, _, _, _]) dX8_looks_240 (by decide) rfl rfl rfl rfl ?_
      refine V_goto (tgt := 433) dX8_looks_243 (by decide) ?_
      refine V_iinc (v := _ + (1)) (L' := [_, _, _, _, _, _, _, _, _, _, _, _, _]) dX8_looks_433 (by decide) rfl rfl rfl rfl ?_
      refine V_goto (tgt := 128) dX8_looks_436 (by decide) ?_
      refine hc _ _ _ _ _ (Eq.symm ?_)
      first
        | exact pushB_t ((pushP_0 n188).mpr (Int32.not_le.mp n195))
        | exact pushB_f (fun h => absurd ((pushP_0 n188).mp h) (Int32.not_lt.mpr c195))
        | exact pushB_t ((pushP_1 c188 n209).mpr n216)
        | exact pushB_f (fun h => c216 ((pushP_1 c188 n209).mp h))
        | exact pushB_t ((pushP_2 c188 c209).mpr (Int32.not_le.mp n231))
        | exact pushB_f (fun h => absurd ((pushP_2 c188 c209).mp h) (Int32.not_lt.mpr c231))
def markS (t sm st : Int32) : Int32 := if t = 0 then sm + 0 - 0 else if st ≤ -200 then sm + 0 - (-200 - st) else sm + (-10 - st) - 0
set_option maxRecDepth 4000 in
theorem lk_mark {Q : QT} (n : Nat) (m : MI) (mr : MR) (hR : RF mr) (hn : 186 ≤ n) (x y ag sm mn fr tp i : Int32) (z9 z10 z11 z12 : Option Value) (ib : Nat) (hi : i.toInt = (ib : Int)) (hib : ib < 938) (hlt : ¬ fr + mn ≤ i) (st : Int32) (hst : m 174 ib = st) (k1 : st < 0) (k2 : ¬ st = -1) (k3 : st ≤ -10) (hc : ∀ (z9 z10 z11 z12 : Option Value), V KX8_looks 4 0 0 Q 128 [some (.ref 173), some (.int x), some (.int y), some (.int ag), some (.int (markS (m 178 0) sm st)), some (.int mn), some (.int fr), some (.int 0), some (.int (i + 1)), z9, z10, z11, z12] [] n m mr) : V KX8_looks 4 0 0 Q 128 [some (.ref 173), some (.int x), some (.int y), some (.int ag), some (.int sm), some (.int mn), some (.int fr), some (.int tp), some (.int i), z9, z10, z11, z12] [] n m mr := by
  refine V_iload dX8_looks_128 rfl ?_
  refine V_iload dX8_looks_130 rfl ?_
  refine V_iload dX8_looks_132 rfl ?_
  refine V_iadd dX8_looks_134 ?_
  refine V_icmp_ge (tgt := 439) dX8_looks_135 (by decide) (fun c135 => absurd c135 hlt) (fun c135 => ?_)
  refine V_aload_n dX8_looks_138 rfl ?_
  refine V_getr (b := 174) 8 1 dX8_looks_139 (Or.inl lkX8_9) rfl rfl ⟨by omega, by omega⟩ (hR _ _ _ rfl) ?_
  refine V_iload dX8_looks_142 rfl ?_
  refine V_iald (len := 938) ib dX8_looks_144 rfl ⟨by omega, by omega⟩ hi (by omega) ?_
  rw [hst]
  refine V_istore (L' := [_, _, _, _, _, _, _, _, _, _, _, _, _]) dX8_looks_145 (by decide) rfl rfl ?_
  refine V_iload dX8_looks_147 rfl ?_
  refine V_if_lt (tgt := 246) dX8_looks_149 (by decide) (fun c149 => ?_) (fun c149 => absurd k1 c149)
  refine V_iload dX8_looks_246 rfl ?_
  refine V_iconst (v := -1) dX8_looks_248 rfl ?_
  refine V_icmp_ne (tgt := 281) dX8_looks_249 (by decide) (fun c249 => ?_) (fun c249 => absurd c249 k2)
  refine V_iload dX8_looks_281 rfl ?_
  refine V_bipush (v := -10) dX8_looks_283 rfl ?_
  refine V_icmp_le (tgt := 367) dX8_looks_285 (by decide) (fun c285 => ?_) (fun c285 => absurd k3 c285)
  refine V_iconst (v := 0) dX8_looks_367 rfl ?_
  refine V_istore (L' := [_, _, _, _, _, _, _, _, _, _, _, _, _]) dX8_looks_368 (by decide) rfl rfl ?_
  refine V_aload_n dX8_looks_370 rfl ?_
  refine V_getr (b := 178) 8 11 dX8_looks_371 (Or.inl lkX8_24) rfl rfl ⟨by omega, by omega⟩ (hR _ _ _ rfl) ?_
  refine V_iconst (v := 0) dX8_looks_374 rfl ?_
  refine V_zald (len := 64) 0 dX8_looks_375 rfl ⟨by omega, by omega⟩ (by decide) (by omega) ?_
  refine V_istore (L' := [_, _, _, _, _, _, _, _, _, _, _, _, _]) dX8_looks_376 (by decide) rfl rfl ?_
  refine V_iload dX8_looks_378 rfl ?_
  refine V_iload dX8_looks_380 rfl ?_
  refine V_if_eq (tgt := 401) dX8_looks_382 (by decide) (fun c382 => ?_) (fun n382 => ?_)
  · refine V_iconst (v := 0) dX8_looks_401 rfl ?_
    refine V_iadd dX8_looks_402 ?_
    refine V_istore (L' := [_, _, _, _, _, _, _, _, _, _, _, _, _]) dX8_looks_403 (by decide) rfl rfl ?_
    refine V_iload dX8_looks_405 rfl ?_
    refine V_iload dX8_looks_407 rfl ?_
    refine V_if_eq (tgt := 429) dX8_looks_409 (by decide) (fun c409 => ?_) (fun n409 => ?_)
    · refine V_iconst (v := 0) dX8_looks_429 rfl ?_
      refine V_isub dX8_looks_430 ?_
      refine V_istore (L' := [_, _, _, _, _, _, _, _, _, _, _, _, _]) dX8_looks_431 (by decide) rfl rfl ?_
      refine V_iinc (v := _ + (1)) (L' := [_, _, _, _, _, _, _, _, _, _, _, _, _]) dX8_looks_433 (by decide) rfl rfl rfl rfl ?_
      refine V_goto (tgt := 128) dX8_looks_436 (by decide) ?_
      first
        | exact absurd c382 n409
        | exact absurd c409 n382
        | exact absurd c390 (Int32.not_le.mpr c417)
        | exact absurd (Int32.not_le.mp n390) n417
        | (have e9 : markS (m 178 0) sm st = sm + 0 - 0 := if_pos c382
           rw [← e9]
           exact hc _ _ _ _)
        | (have e9 : markS (m 178 0) sm st = sm + (-10 - st) - 0 := (if_neg n382).trans (if_neg n390)
           rw [← e9]
           exact hc _ _ _ _)
        | (have e9 : markS (m 178 0) sm st = sm + 0 - (-200 - st) := (if_neg n382).trans (if_pos c390)
           rw [← e9]
           exact hc _ _ _ _)
    · refine V_iload dX8_looks_412 rfl ?_
      refine V_sipush (v := -200) dX8_looks_414 rfl ?_
      refine V_icmp_gt (tgt := 429) dX8_looks_417 (by decide) (fun c417 => ?_) (fun n417 => ?_)
      · refine V_iconst (v := 0) dX8_looks_429 rfl ?_
        refine V_isub dX8_looks_430 ?_
        refine V_istore (L' := [_, _, _, _, _, _, _, _, _, _, _, _, _]) dX8_looks_431 (by decide) rfl rfl ?_
        refine V_iinc (v := _ + (1)) (L' := [_, _, _, _, _, _, _, _, _, _, _, _, _]) dX8_looks_433 (by decide) rfl rfl rfl rfl ?_
        refine V_goto (tgt := 128) dX8_looks_436 (by decide) ?_
        first
          | exact absurd c382 n409
          | exact absurd c409 n382
          | exact absurd c390 (Int32.not_le.mpr c417)
          | exact absurd (Int32.not_le.mp n390) n417
          | (have e9 : markS (m 178 0) sm st = sm + 0 - 0 := if_pos c382
             rw [← e9]
             exact hc _ _ _ _)
          | (have e9 : markS (m 178 0) sm st = sm + (-10 - st) - 0 := (if_neg n382).trans (if_neg n390)
             rw [← e9]
             exact hc _ _ _ _)
          | (have e9 : markS (m 178 0) sm st = sm + 0 - (-200 - st) := (if_neg n382).trans (if_pos c390)
             rw [← e9]
             exact hc _ _ _ _)
      · refine V_sipush (v := -200) dX8_looks_420 rfl ?_
        refine V_iload dX8_looks_423 rfl ?_
        refine V_isub dX8_looks_425 ?_
        refine V_goto (tgt := 430) dX8_looks_426 (by decide) ?_
        refine V_isub dX8_looks_430 ?_
        refine V_istore (L' := [_, _, _, _, _, _, _, _, _, _, _, _, _]) dX8_looks_431 (by decide) rfl rfl ?_
        refine V_iinc (v := _ + (1)) (L' := [_, _, _, _, _, _, _, _, _, _, _, _, _]) dX8_looks_433 (by decide) rfl rfl rfl rfl ?_
        refine V_goto (tgt := 128) dX8_looks_436 (by decide) ?_
        first
          | exact absurd c382 n409
          | exact absurd c409 n382
          | exact absurd c390 (Int32.not_le.mpr c417)
          | exact absurd (Int32.not_le.mp n390) n417
          | (have e9 : markS (m 178 0) sm st = sm + 0 - 0 := if_pos c382
             rw [← e9]
             exact hc _ _ _ _)
          | (have e9 : markS (m 178 0) sm st = sm + (-10 - st) - 0 := (if_neg n382).trans (if_neg n390)
             rw [← e9]
             exact hc _ _ _ _)
          | (have e9 : markS (m 178 0) sm st = sm + 0 - (-200 - st) := (if_neg n382).trans (if_pos c390)
             rw [← e9]
             exact hc _ _ _ _)
  · refine V_iload dX8_looks_385 rfl ?_
    refine V_sipush (v := -200) dX8_looks_387 rfl ?_
    refine V_icmp_le (tgt := 401) dX8_looks_390 (by decide) (fun c390 => ?_) (fun n390 => ?_)
    · refine V_iconst (v := 0) dX8_looks_401 rfl ?_
      refine V_iadd dX8_looks_402 ?_
      refine V_istore (L' := [_, _, _, _, _, _, _, _, _, _, _, _, _]) dX8_looks_403 (by decide) rfl rfl ?_
      refine V_iload dX8_looks_405 rfl ?_
      refine V_iload dX8_looks_407 rfl ?_
      refine V_if_eq (tgt := 429) dX8_looks_409 (by decide) (fun c409 => ?_) (fun n409 => ?_)
      · refine V_iconst (v := 0) dX8_looks_429 rfl ?_
        refine V_isub dX8_looks_430 ?_
        refine V_istore (L' := [_, _, _, _, _, _, _, _, _, _, _, _, _]) dX8_looks_431 (by decide) rfl rfl ?_
        refine V_iinc (v := _ + (1)) (L' := [_, _, _, _, _, _, _, _, _, _, _, _, _]) dX8_looks_433 (by decide) rfl rfl rfl rfl ?_
        refine V_goto (tgt := 128) dX8_looks_436 (by decide) ?_
        first
          | exact absurd c382 n409
          | exact absurd c409 n382
          | exact absurd c390 (Int32.not_le.mpr c417)
          | exact absurd (Int32.not_le.mp n390) n417
          | (have e9 : markS (m 178 0) sm st = sm + 0 - 0 := if_pos c382
             rw [← e9]
             exact hc _ _ _ _)
          | (have e9 : markS (m 178 0) sm st = sm + (-10 - st) - 0 := (if_neg n382).trans (if_neg n390)
             rw [← e9]
             exact hc _ _ _ _)
          | (have e9 : markS (m 178 0) sm st = sm + 0 - (-200 - st) := (if_neg n382).trans (if_pos c390)
             rw [← e9]
             exact hc _ _ _ _)
      · refine V_iload dX8_looks_412 rfl ?_
        refine V_sipush (v := -200) dX8_looks_414 rfl ?_
        refine V_icmp_gt (tgt := 429) dX8_looks_417 (by decide) (fun c417 => ?_) (fun n417 => ?_)
        · refine V_iconst (v := 0) dX8_looks_429 rfl ?_
          refine V_isub dX8_looks_430 ?_
          refine V_istore (L' := [_, _, _, _, _, _, _, _, _, _, _, _, _]) dX8_looks_431 (by decide) rfl rfl ?_
          refine V_iinc (v := _ + (1)) (L' := [_, _, _, _, _, _, _, _, _, _, _, _, _]) dX8_looks_433 (by decide) rfl rfl rfl rfl ?_
          refine V_goto (tgt := 128) dX8_looks_436 (by decide) ?_
          first
            | exact absurd c382 n409
            | exact absurd c409 n382
            | exact absurd c390 (Int32.not_le.mpr c417)
            | exact absurd (Int32.not_le.mp n390) n417
            | (have e9 : markS (m 178 0) sm st = sm + 0 - 0 := if_pos c382
               rw [← e9]
               exact hc _ _ _ _)
            | (have e9 : markS (m 178 0) sm st = sm + (-10 - st) - 0 := (if_neg n382).trans (if_neg n390)
               rw [← e9]
               exact hc _ _ _ _)
            | (have e9 : markS (m 178 0) sm st = sm + 0 - (-200 - st) := (if_neg n382).trans (if_pos c390)
               rw [← e9]
               exact hc _ _ _ _)
        · refine V_sipush (v := -200) dX8_looks_420 rfl ?_
          refine V_iload dX8_looks_423 rfl ?_
          refine V_isub dX8_looks_425 ?_
          refine V_goto (tgt := 430) dX8_looks_426 (by decide) ?_
          refine V_isub dX8_looks_430 ?_
          refine V_istore (L' := [_, _, _, _, _, _, _, _, _, _, _, _, _]) dX8_looks_431 (by decide) rfl rfl ?_
          refine V_iinc (v := _ + (1)) (L' := [_, _, _, _, _, _, _, _, _, _, _, _, _]) dX8_looks_433 (by decide) rfl rfl rfl rfl ?_
          refine V_goto (tgt := 128) dX8_looks_436 (by decide) ?_
          first
            | exact absurd c382 n409
            | exact absurd c409 n382
            | exact absurd c390 (Int32.not_le.mpr c417)
            | exact absurd (Int32.not_le.mp n390) n417
            | (have e9 : markS (m 178 0) sm st = sm + 0 - 0 := if_pos c382
               rw [← e9]
               exact hc _ _ _ _)
            | (have e9 : markS (m 178 0) sm st = sm + (-10 - st) - 0 := (if_neg n382).trans (if_neg n390)
               rw [← e9]
               exact hc _ _ _ _)
            | (have e9 : markS (m 178 0) sm st = sm + 0 - (-200 - st) := (if_neg n382).trans (if_pos c390)
               rw [← e9]
               exact hc _ _ _ _)
    · refine V_bipush (v := -10) dX8_looks_393 rfl ?_
      refine V_iload dX8_looks_395 rfl ?_
      refine V_isub dX8_looks_397 ?_
      refine V_goto (tgt := 402) dX8_looks_398 (by decide) ?_
      refine V_iadd dX8_looks_402 ?_
      refine V_istore (L' := [_, _, _, _, _, _, _, _, _, _, _, _, _]) dX8_looks_403 (by decide) rfl rfl ?_
      refine V_iload dX8_looks_405 rfl ?_
      refine V_iload dX8_looks_407 rfl ?_
      refine V_if_eq (tgt := 429) dX8_looks_409 (by decide) (fun c409 => ?_) (fun n409 => ?_)
      · refine V_iconst (v := 0) dX8_looks_429 rfl ?_
        refine V_isub dX8_looks_430 ?_
        refine V_istore (L' := [_, _, _, _, _, _, _, _, _, _, _, _, _]) dX8_looks_431 (by decide) rfl rfl ?_
        refine V_iinc (v := _ + (1)) (L' := [_, _, _, _, _, _, _, _, _, _, _, _, _]) dX8_looks_433 (by decide) rfl rfl rfl rfl ?_
        refine V_goto (tgt := 128) dX8_looks_436 (by decide) ?_
        first
          | exact absurd c382 n409
          | exact absurd c409 n382
          | exact absurd c390 (Int32.not_le.mpr c417)
          | exact absurd (Int32.not_le.mp n390) n417
          | (have e9 : markS (m 178 0) sm st = sm + 0 - 0 := if_pos c382
             rw [← e9]
             exact hc _ _ _ _)
          | (have e9 : markS (m 178 0) sm st = sm + (-10 - st) - 0 := (if_neg n382).trans (if_neg n390)
             rw [← e9]
             exact hc _ _ _ _)
          | (have e9 : markS (m 178 0) sm st = sm + 0 - (-200 - st) := (if_neg n382).trans (if_pos c390)
             rw [← e9]
             exact hc _ _ _ _)
      · refine V_iload dX8_looks_412 rfl ?_
        refine V_sipush (v := -200) dX8_looks_414 rfl ?_
        refine V_icmp_gt (tgt := 429) dX8_looks_417 (by decide) (fun c417 => ?_) (fun n417 => ?_)
        · refine V_iconst (v := 0) dX8_looks_429 rfl ?_
          refine V_isub dX8_looks_430 ?_
          refine V_istore (L' := [_, _, _, _, _, _, _, _, _, _, _, _, _]) dX8_looks_431 (by decide) rfl rfl ?_
          refine V_iinc (v := _ + (1)) (L' := [_, _, _, _, _, _, _, _, _, _, _, _, _]) dX8_looks_433 (by decide) rfl rfl rfl rfl ?_
          refine V_goto (tgt := 128) dX8_looks_436 (by decide) ?_
          first
            | exact absurd c382 n409
            | exact absurd c409 n382
            | exact absurd c390 (Int32.not_le.mpr c417)
            | exact absurd (Int32.not_le.mp n390) n417
            | (have e9 : markS (m 178 0) sm st = sm + 0 - 0 := if_pos c382
               rw [← e9]
               exact hc _ _ _ _)
            | (have e9 : markS (m 178 0) sm st = sm + (-10 - st) - 0 := (if_neg n382).trans (if_neg n390)
               rw [← e9]
               exact hc _ _ _ _)
            | (have e9 : markS (m 178 0) sm st = sm + 0 - (-200 - st) := (if_neg n382).trans (if_pos c390)
               rw [← e9]
               exact hc _ _ _ _)
        · refine V_sipush (v := -200) dX8_looks_420 rfl ?_
          refine V_iload dX8_looks_423 rfl ?_
          refine V_isub dX8_looks_425 ?_
          refine V_goto (tgt := 430) dX8_looks_426 (by decide) ?_
          refine V_isub dX8_looks_430 ?_
          refine V_istore (L' := [_, _, _, _, _, _, _, _, _, _, _, _, _]) dX8_looks_431 (by decide) rfl rfl ?_
          refine V_iinc (v := _ + (1)) (L' := [_, _, _, _, _, _, _, _, _, _, _, _, _]) dX8_looks_433 (by decide) rfl rfl rfl rfl ?_
          refine V_goto (tgt := 128) dX8_looks_436 (by decide) ?_
          first
            | exact absurd c382 n409
            | exact absurd c409 n382
            | exact absurd c390 (Int32.not_le.mpr c417)
            | exact absurd (Int32.not_le.mp n390) n417
            | (have e9 : markS (m 178 0) sm st = sm + 0 - 0 := if_pos c382
               rw [← e9]
               exact hc _ _ _ _)
            | (have e9 : markS (m 178 0) sm st = sm + (-10 - st) - 0 := (if_neg n382).trans (if_neg n390)
               rw [← e9]
               exact hc _ _ _ _)
            | (have e9 : markS (m 178 0) sm st = sm + 0 - (-200 - st) := (if_neg n382).trans (if_pos c390)
               rw [← e9]
               exact hc _ _ _ _)
theorem markS_eq {t sm st v : Int32} (h : markOK st v) : markS t sm st = if t = 0 then sm else sm + v := by
  have q := mark_sum (sm := sm) h
  unfold markS
  by_cases e : t = 0
  · rw [if_pos e, if_pos e, Int32.add_zero, Int32.sub_zero]
  · rw [if_neg e, if_neg e]
    by_cases e2 : st ≤ -200
    · rw [if_pos e2]
      exact q.2.2.2.2 e2
    · rw [if_neg e2]
      exact q.2.2.2.1 e2
theorem enc_1 {g : Nat → Int32} : nI (enc g 1) &&& 1 = 1 ↔ ¬ g 0 = 0 := by
  have e9 : enc g 1 = if g 0 = 0 then 0 else 1 := by
    show 2 * 0 + (if g 0 = 0 then 0 else 1) = _
    omega
  rw [e9]
  by_cases h : g 0 = 0
  · rw [if_pos h]
    exact ⟨fun q => absurd q (by decide), fun q => absurd h q⟩
  · rw [if_neg h]
    exact ⟨fun _ => h, fun _ => by decide⟩
theorem push_eq {g f : Nat → Int32} {c : Int32} {q : Nat} (hc : c.toInt = (q : Int)) (hq : q < 1800) (hf : g (q / 300) = f (q / 300)) : pushB g (q / 300) (nI (q / 100 % 3)) (nI (q % 100)) = vPassB f c := by
  have hvp := vPass_q (f := f) hc hq
  have e : pushP g (q / 300) (nI (q / 100 % 3)) (nI (q % 100)) ↔ vPass f c := by
    rw [hvp]
    unfold pushP
    rw [hf]
  by_cases h : vPass f c
  · rw [pushB_t (e.mpr h), vPassB_t h]
  · rw [pushB_f (fun g => h (e.mp g)), vPassB_f h]
theorem tok_parts {q : Nat} (hq : q < 1800) : (0 : Int32) ≤ nI (q / 300 + 8 * (q / 100 % 3) + 32 * (q % 100)) ∧ nI (q / 300 + 8 * (q / 100 % 3) + 32 * (q % 100)) - nI (q / 300 + 8 * (q / 100 % 3) + 32 * (q % 100)) / 8 * 8 = nI (q / 300) ∧ nI (q / 300 + 8 * (q / 100 % 3) + 32 * (q % 100)) / 8 - nI (q / 300 + 8 * (q / 100 % 3) + 32 * (q % 100)) / 8 / 4 * 4 = nI (q / 100 % 3) ∧ nI (q / 300 + 8 * (q / 100 % 3) + 32 * (q % 100)) / 32 = nI (q % 100) := by
  have hu : q / 300 < 8 := by omega
  have ht : q / 100 % 3 < 3 := by omega
  have hw : q % 100 < 100 := by omega
  generalize q / 300 = u at *
  generalize q / 100 % 3 = t at *
  generalize q % 100 = w at *
  refine ⟨?_, ?_, ?_, ?_⟩
  · rw [Int32.le_iff_toInt_le, nI_toInt (by omega)]
    simp only [Int32.reduceToInt]
    omega
  · rw [show (8 : Int32) = nI 8 from rfl, pk_rem (by omega) (by decide) (by decide)]
    exact congrArg nI (by omega)
  · rw [show (8 : Int32) = nI 8 from rfl, show (4 : Int32) = nI 4 from rfl, pk_div (by omega) (by decide) (by decide), pk_rem (by omega) (by decide) (by decide)]
    exact congrArg nI (by omega)
  · rw [show (32 : Int32) = nI 32 from rfl, pk_div (by omega) (by decide) (by decide)]
    exact congrArg nI (by omega)
theorem up2_keep {mi : MI} {a k b j : Nat} {x : Int32} (h : ¬ (b = a ∧ j = k)) : up2 mi a k x b j = mi b j := if_neg h
theorem bits_up {m : MI} {d : Nat} {v : Int32} (hv : v = 0 ∨ v = 1) {D : Nat} (h : ∀ q, q < D → m 178 q = 0 ∨ m 178 q = 1) : ∀ q, q < d + 1 → d ≤ D → up2 m 178 d v 178 q = 0 ∨ up2 m 178 d v 178 q = 1 := fun q hq hD => by
  by_cases e : q = d
  · rw [e, up2_s]
    exact hv
  · rw [up2_keep (by omega)]
    exact h q (by omega)
theorem b01_or {c : Prop} [Decidable c] : b01 c = 0 ∨ b01 c = 1 := by
  by_cases h : c
  · exact Or.inr (b01_t h)
  · exact Or.inl (b01_f h)
theorem vPB_or {f : Nat → Int32} {c : Int32} : vPassB f c = 0 ∨ vPassB f c = 1 := by
  unfold vPassB
  split
  · exact Or.inr rfl
  · exact Or.inl rfl
set_option maxRecDepth 4000 in
theorem qX8_looks (n : Nat) (mi : MI) (mr : MR) (c : CT) (hR : RF mr) (hn : 186 ≤ n) (hBD : BDy 2000 (mi 174) c) (nc : Nat) (e : Nat → Nat) (s nv : Nat → Int32) (b : Nat) (hMV : MV (mi 174) nc e s nv b) (x y : Int32) (p : Nat) (hx : x.toInt = (p : Int)) (hp : p < cN c) (hy : hasIn y (cW c)) (h0 : 0 ≤ sAge (mi 174) p y) : Ct KX8_looks 4 0 0 [.ref 173, .int x, .int y] n mi mr (offQ (some (.int (mSum (sFacts (mi 174) p x y) s nv e nc))) n mi mr byM) := by
  refine Ct.of2 [some (.ref 173), some (.int x), some (.int y), none, none, none, none, none, none, none, none, none, none] (by decide +kernel) (Nat.le_of_ble_eq_true rfl) rfl ?_
  obtain ⟨⟨hN, hN6⟩, ⟨hW, hW5⟩, ⟨hL, hL5⟩, ⟨hT, hT100⟩, ⟨hS, hS5⟩, ⟨hP, hP8⟩, ⟨hBk, hB8⟩⟩ := hBD.1
  obtain ⟨hmn, hb0, hb8, hnc, hcl⟩ := hMV
  have hcut : ∀ m2 : MI, Off byM mi m2 → (∀ q, q < 6 → m2 177 q = (sFacts (mi 174) p x y) q) → V KX8_looks 4 0 0 (offQ (some (.int (mSum (sFacts (mi 174) p x y) s nv e nc))) n mi mr byM) 91 [some (.ref 173), some (.int x), some (.int y), some (.int (sAge (mi 174) p y)), none, none, none, none, none, none, none, none, none] [] n m2 mr := by
    intro m2 ho hf
    have hvle : vFrom e nc ≤ 100 := mv_le (fun k hk => (hcl k hk).2.1)
    have e174 : ∀ {m : MI}, Off byM mi m → m 174 = mi 174 := fun h => h.fn (fun k hk => by unfold byM at hk; omega)
    refine V_iconst (v := 0) dX8_looks_91 rfl ?_
    refine V_istore (L' := [_, _, _, _, _, _, _, _, _, _, _, _, _]) dX8_looks_92 (by decide) rfl rfl ?_
    refine V_aload_n dX8_looks_94 rfl ?_
    refine V_sipush (v := 233) dX8_looks_95 rfl ?_
    refine V_iconst (v := 0) dX8_looks_98 rfl ?_
    refine V_callV (ci := 8) (qX8_tellsOf _ _ _ hR hn _ _ 233 rfl (by decide) (by rw [e174 ho]; exact hBD.okS.1)) dX8_looks_99 mlX8_143 mtX8_tellsOf ivX8_tellsOf rfl rfl ⟨by omega, by omega⟩ (by decide) rfl rfl (by decide) (Nat.le_of_ble_eq_true rfl) rfl rfl ?_
    rintro _ _ _ _ ⟨rfl, rfl, rfl, rfl⟩
    rw [e174 ho]
    generalize sTells (mi 174) 233 0 = mn at hmn ⊢
    refine V_istore (L' := [_, _, _, _, _, _, _, _, _, _, _, _, _]) dX8_looks_102 (by decide) rfl rfl ?_
    refine V_sipush (v := 238) dX8_looks_104 rfl ?_
    refine V_sipush (v := 140) dX8_looks_107 rfl ?_
    refine V_aload_n dX8_looks_110 rfl ?_
    refine V_getr (b := 174) 8 1 dX8_looks_111 (Or.inl lkX8_9) rfl rfl ⟨by omega, by omega⟩ (hR _ _ _ rfl) ?_
    refine V_bipush (v := 18) dX8_looks_114 rfl ?_
    refine V_iald (len := 938) 18 dX8_looks_116 rfl ⟨by omega, by omega⟩ (by decide) (by omega) ?_
    refine V_imul dX8_looks_117 ?_
    refine V_iadd dX8_looks_118 ?_
    rw [e174 ho]
    generalize 238 + 140 * mi 174 18 = fr at hb0 ⊢
    refine V_istore (L' := [_, _, _, _, _, _, _, _, _, _, _, _, _]) dX8_looks_119 (by decide) rfl rfl ?_
    refine V_iconst (v := 0) dX8_looks_121 rfl ?_
    refine V_istore (L' := [_, _, _, _, _, _, _, _, _, _, _, _, _]) dX8_looks_122 (by decide) rfl rfl ?_
    refine V_iload dX8_looks_124 rfl ?_
    refine V_istore (L' := [_, _, _, _, _, _, _, _, _, _, _, _, _]) dX8_looks_126 (by decide) rfl rfl ?_
    have hgo : ∀ {i : Int32} {t : Nat}, i.toInt = ((b + t : Nat) : Int) → (¬ fr + mn ≤ i ↔ t < vFrom e nc + nc) := fun hi => by
      have q := le_nat (ix_add hb0 hmn (by omega)) hi
      rw [q]
      omega
    have loop1 : ∀ (m k : Nat) (m3 : MI) (sm i : Int32) (z9 z10 z11 z12 : Option Value), k + m = nc → i.toInt = ((b + (vFrom e k + k) : Nat) : Int) → Off byM mi m3 → (∀ q, q < 6 → m3 177 q = (sFacts (mi 174) p x y) q) → sm = mSum (sFacts (mi 174) p x y) s nv e k → V KX8_looks 4 0 0 (offQ (some (.int (mSum (sFacts (mi 174) p x y) s nv e nc))) n mi mr byM) 128 [some (.ref 173), some (.int x), some (.int y), some (.int (sAge (mi 174) p y)), some (.int sm), some (.int mn), some (.int fr), some (.int 0), some (.int i), z9, z10, z11, z12] [] n m3 mr := by
      intro m
      induction m with
      | zero =>
        intro k m3 sm i z9 z10 z11 z12 hkm hi ho3 hf3 hsm
        have hk9 : k = nc := by omega
        rw [hk9] at hi hsm
        have hle := Classical.not_not.mp (fun h => absurd ((hgo hi).mp h) (Nat.lt_irrefl _))
        refine V_iload dX8_looks_128 rfl ?_
        refine V_iload dX8_looks_130 rfl ?_
        refine V_iload dX8_looks_132 rfl ?_
        refine V_iadd dX8_looks_134 ?_
        refine V_icmp_ge (tgt := 439) dX8_looks_135 (by decide) (fun c135 => ?_) (fun c135 => absurd hle c135)
        refine V_iload dX8_looks_439 rfl ?_
        refine V_iret dX8_looks_441 rfl rfl ?_
        exact ⟨by rw [hsm], rfl, rfl, ho3⟩
      | succ m ih =>
        intro k m3 sm i z9 z10 z11 z12 hkm hi ho3 hf3 hsm
        have hk : k < nc := by omega
        obtain ⟨k1, k2, k3, k4, k5, k6⟩ := hcl k hk
        have hmono := mv_mono (fun j hj => (hcl j hj).1) hk
        have loop2 : ∀ (m j d : Nat) (m4 : MI) (tp i : Int32) (z9 z10 z11 z12 : Option Value), j + m = e k → tp.toInt = (d : Int) → i.toInt = ((b + (j + k) : Nat) : Int) → vFrom e k ≤ j → d ≤ 30 → Off byM mi m4 → (∀ q, q < 6 → m4 177 q = (sFacts (mi 174) p x y) q) → (∀ q, q < d → m4 178 q = 0 ∨ m4 178 q = 1) → depTo s j m d = some 1 → evs (sFacts (mi 174) p x y) s j m (nI (enc (m4 178) d)) = evs (sFacts (mi 174) p x y) s (vFrom e k) (e k - vFrom e k) 0 → V KX8_looks 4 0 0 (offQ (some (.int (mSum (sFacts (mi 174) p x y) s nv e nc))) n mi mr byM) 128 [some (.ref 173), some (.int x), some (.int y), some (.int (sAge (mi 174) p y)), some (.int sm), some (.int mn), some (.int fr), some (.int tp), some (.int i), z9, z10, z11, z12] [] n m4 mr := by
          intro m
          induction m with
          | zero =>
            intro j d m4 tp i z9 z10 z11 z12 hjm htp hi hj hd ho4 hf4 hbt hdp hev
            have hjk : j = e k := by omega
            rw [hjk] at hi hev
            have hd1 : d = 1 := by
              have q : some d = some 1 := hdp
              exact Option.some.inj q
            subst hd1
            have hms := mark_sum (sm := sm) k5
            refine lk_mark n m4 mr hR hn x y _ sm mn fr tp i z9 z10 z11 z12 (b + (e k + k)) hi (by omega) ((hgo hi).mpr (by omega)) _ (by rw [e174 ho4]) hms.1 hms.2.1 hms.2.2.1 (fun z9 z10 z11 z12 => ?_)
            have hi1 : (i + 1).toInt = ((b + (e k + (k + 1)) : Nat) : Int) := ix_add (a := b + (e k + k)) (b := 1) hi (by decide) (by omega)
            refine ih (k + 1) m4 _ _ _ _ _ _ (by omega) hi1 ho4 hf4 ?_
            have hvh : vHolds (sFacts (mi 174) p x y) s (vFrom e k) (e k) = 0 ↔ m4 178 0 = 0 := by
              unfold vHolds
              rw [← hev]
              show b01 (nI (enc (m4 178) 1) &&& 1 = 1) = 0 ↔ _
              rw [b01_0, enc_1, Classical.not_not]
            rw [markS_eq k5, hsm, show mSum (sFacts (mi 174) p x y) s nv e (k + 1) = if vHolds (sFacts (mi 174) p x y) s (vFrom e k) (e k) = 0 then mSum (sFacts (mi 174) p x y) s nv e k else mSum (sFacts (mi 174) p x y) s nv e k + nv k from rfl]
            by_cases h : m4 178 0 = 0
            · rw [if_pos h, if_pos (hvh.mpr h)]
            · rw [if_neg h, if_neg (fun g => h (hvh.mp g))]
          | succ m ih2 =>
            intro j d m4 tp i z9 z10 z11 z12 hjm htp hi hj hd ho4 hf4 hbt hdp hev
            have hstep : m4 174 (b + (j + k)) = tokM (s j) := by rw [e174 ho4]; exact k4 j hj (by omega)
            have hi1 : (i + 1).toInt = ((b + (j + 1 + k) : Nat) : Int) := by
              have q := ix_add (a := b + (j + k)) (b := 1) (y := 1) hi (by decide) (by omega)
              rw [q]
              omega
            have hlt := (hgo hi).mpr (by omega)
            have ofx : ∀ (d9 : Nat) (v : Int32), Off byM mi (up2 m4 178 d9 v) := fun d9 v => ho4.up (Or.inr rfl)
            have ffx : ∀ (d9 : Nat) (v : Int32) (q : Nat), q < 6 → up2 m4 178 d9 v 177 q = (sFacts (mi 174) p x y) q := fun d9 v q hq => by rw [up2_row (by decide)]; exact hf4 q hq
            have hlo : ∀ (d9 : Nat) (v : Int32) (q : Nat), q < d9 → up2 m4 178 d9 v 178 q = m4 178 q := fun d9 v q hq => up2_keep (by omega)
            rcases k3 j (by omega) with hs | hs | hs | ⟨q, hq, hql⟩
            · obtain ⟨d1, d2⟩ := dep_not hdp hs
              obtain ⟨d0, rfl⟩ : ∃ d0, d = d0 + 1 := ⟨d - 1, by omega⟩
              refine lk_not n m4 mr hR hn x y _ sm mn fr tp i z9 z10 z11 z12 _ hi (by omega) hlt d0 htp hd (by rw [hstep, hs]; rfl) (fun v z9 z10 z11 z12 hv => ?_)
              refine ih2 (j + 1) (d0 + 1) _ _ _ _ _ _ _ (by omega) htp hi1 (by omega) hd (ofx _ _) (ffx _ _) (fun q hq => bits_up (hv ▸ b01_or) hbt q hq (by omega)) d2 ?_
              rw [← hev]
              refine congrArg _ (stk_not hs (hlo _ _) ?_).symm
              rw [up2_s, hv]
              unfold b01
              rfl
            · obtain ⟨d1, d2⟩ := dep_two hdp (by rw [hs]; decide) (Or.inl hs)
              obtain ⟨d0, rfl⟩ : ∃ d0, d = d0 + 2 := ⟨d - 2, by omega⟩
              refine lk_and n m4 mr hR hn x y _ sm mn fr tp i z9 z10 z11 z12 _ hi (by omega) hlt d0 htp hd (by rw [hstep, hs]; rfl) (fun v z9 z10 z11 z12 hv => ?_)
              refine ih2 (j + 1) (d0 + 1) _ _ _ _ _ _ _ (by omega) (tp_down htp hd).1 hi1 (by omega) (by omega) (ofx _ _) (ffx _ _) (fun q hq => bits_up (hv ▸ b01_or) hbt q hq (by omega)) d2 ?_
              rw [← hev]
              refine congrArg _ (stk_and hs (by omega) (hlo _ _) ?_).symm
              rw [up2_s, hv]
              unfold b01
              rfl
            · obtain ⟨d1, d2⟩ := dep_two hdp (by rw [hs]; decide) (Or.inr hs)
              obtain ⟨d0, rfl⟩ : ∃ d0, d = d0 + 2 := ⟨d - 2, by omega⟩
              refine lk_or n m4 mr hR hn x y _ sm mn fr tp i z9 z10 z11 z12 _ hi (by omega) hlt d0 htp hd (by rw [hstep, hs]; rfl) (fun v z9 z10 z11 z12 hv => ?_)
              refine ih2 (j + 1) (d0 + 1) _ _ _ _ _ _ _ (by omega) (tp_down htp hd).1 hi1 (by omega) (by omega) (ofx _ _) (ffx _ _) (fun q hq => bits_up (hv ▸ b01_or) hbt q hq (by omega)) d2 ?_
              rw [← hev]
              refine congrArg _ (stk_or hs (by omega) (hlo _ _) ?_).symm
              rw [up2_s, hv]
              unfold b01
              rfl
            · obtain ⟨d1, d2⟩ := dep_push hdp hq
              obtain ⟨t0, t1, t2, t3⟩ := tok_parts hql
              refine lk_push n m4 mr hR hn x y _ sm mn fr tp i z9 z10 z11 z12 _ hi (by omega) hlt d htp d1 _ (by rw [hstep, tok_q hq hql]) t0 (q / 300) (by omega) _ _ t1 t2 t3 (fun v z9 z10 z11 z12 hv => ?_)
              rw [push_eq hq hql (hf4 _ (by omega))] at hv
              refine ih2 (j + 1) (d + 1) _ _ _ _ _ _ _ (by omega) (ix_add (a := d) (b := 1) htp (by decide) (by omega)) hi1 (by omega) (by omega) (ofx _ _) (ffx _ _) (fun q hq => bits_up (hv ▸ vPB_or) hbt q hq (by omega)) d2 ?_
              rw [← hev]
              refine congrArg _ (stk_push hq d1 (hlo _ _) ?_).symm
              rw [up2_s]
              exact hv
        exact loop2 (e k - vFrom e k) (vFrom e k) 0 m3 0 i _ _ _ _ (by omega) rfl hi (Nat.le_refl _) (by decide) ho3 hf3 (fun q hq => absurd hq (Nat.not_lt_zero _)) k6 rfl
    exact loop1 nc 0 m2 0 fr _ _ _ _ (Nat.zero_add _) (by rw [show b + (vFrom e 0 + 0) = b from rfl]; exact hb0) ho hf rfl
  refine V_aload_n dX8_looks_0 rfl ?_
  refine V_iload_n dX8_looks_1 rfl ?_
  refine V_iload_n dX8_looks_2 rfl ?_
  refine V_callV (ci := 8) (qX8_ageBy _ _ _ hR hn _ _ p hx (by omega) (hy.ok hW5) hBD.okS.2.1) dX8_looks_3 mlX8_146 mtX8_ageBy ivX8_ageBy rfl rfl ⟨by omega, by omega⟩ (by decide) rfl rfl (by decide) (Nat.le_of_ble_eq_true rfl) rfl rfl ?_
  rintro _ _ _ _ ⟨rfl, rfl, rfl, rfl⟩
  refine V_istore_n (L' := [_, _, _, _, _, _, _, _, _, _, _, _, _]) dX8_looks_6 (by decide) rfl rfl ?_
  refine V_aload_n dX8_looks_7 rfl ?_
  refine V_getr (b := 177) 8 10 dX8_looks_8 (Or.inl lkX8_21) rfl rfl ⟨by omega, by omega⟩ (hR _ _ _ rfl) ?_
  refine V_iconst (v := 0) dX8_looks_11 rfl ?_
  refine V_iload_n dX8_looks_12 rfl ?_
  refine V_iast (len := 6) 0 dX8_looks_13 rfl ⟨by omega, by omega⟩ (by decide) (by omega) ?_
  refine V_aload_n dX8_looks_14 rfl ?_
  refine V_getr (b := 177) 8 10 dX8_looks_15 (Or.inl lkX8_21) rfl rfl ⟨by omega, by omega⟩ (hR _ _ _ rfl) ?_
  refine V_iconst (v := 1) dX8_looks_18 rfl ?_
  refine V_aload_n dX8_looks_19 rfl ?_
  refine V_getr (b := 174) 8 1 dX8_looks_20 (Or.inl lkX8_9) rfl rfl ⟨by omega, by omega⟩ (hR _ _ _ rfl) ?_
  refine V_bipush (v := 20) dX8_looks_23 rfl ?_
  refine V_iload_n dX8_looks_25 rfl ?_
  refine V_iadd dX8_looks_26 ?_
  refine V_iald (len := 938) (20 + p) dX8_looks_27 rfl ⟨by omega, by omega⟩ (ix_add (by decide) hx (by omega)) (by omega) ?_
  refine V_iast (len := 6) 1 dX8_looks_28 rfl ⟨by omega, by omega⟩ (by decide) (by omega) ?_
  refine V_aload_n dX8_looks_29 rfl ?_
  refine V_getr (b := 177) 8 10 dX8_looks_30 (Or.inl lkX8_21) rfl rfl ⟨by omega, by omega⟩ (hR _ _ _ rfl) ?_
  refine V_iconst (v := 2) dX8_looks_33 rfl ?_
  refine V_aload_n dX8_looks_34 rfl ?_
  refine V_getr (b := 174) 8 1 dX8_looks_35 (Or.inl lkX8_9) rfl rfl ⟨by omega, by omega⟩ (hR _ _ _ rfl) ?_
  refine V_bipush (v := 26) dX8_looks_38 rfl ?_
  refine V_iload_n dX8_looks_40 rfl ?_
  refine V_iadd dX8_looks_41 ?_
  refine V_iald (len := 938) (26 + p) dX8_looks_42 rfl ⟨by omega, by omega⟩ (ix_add (by decide) hx (by omega)) (by omega) ?_
  refine V_iast (len := 6) 2 dX8_looks_43 rfl ⟨by omega, by omega⟩ (by decide) (by omega) ?_
  refine V_aload_n dX8_looks_44 rfl ?_
  refine V_getr (b := 177) 8 10 dX8_looks_45 (Or.inl lkX8_21) rfl rfl ⟨by omega, by omega⟩ (hR _ _ _ rfl) ?_
  refine V_iconst (v := 3) dX8_looks_48 rfl ?_
  refine V_iload_n dX8_looks_49 rfl ?_
  refine V_if_ge (tgt := 57) dX8_looks_50 (by decide) (fun c50 => ?_) (fun c50 => absurd h0 c50)
  refine V_iload_n dX8_looks_57 rfl ?_
  refine V_bipush (v := 10) dX8_looks_58 rfl ?_
  refine V_idiv dX8_looks_60 (by decide) ?_
  refine V_iast (len := 6) 3 dX8_looks_61 rfl ⟨by omega, by omega⟩ (by decide) (by omega) ?_
  refine V_aload_n dX8_looks_62 rfl ?_
  refine V_getr (b := 177) 8 10 dX8_looks_63 (Or.inl lkX8_21) rfl rfl ⟨by omega, by omega⟩ (hR _ _ _ rfl) ?_
  refine V_iconst (v := 4) dX8_looks_66 rfl ?_
  refine V_aload_n dX8_looks_67 rfl ?_
  refine V_iload_n dX8_looks_68 rfl ?_
  refine V_iload_n dX8_looks_69 rfl ?_
  refine V_callV (ci := 8) (qX8_stageAt _ _ _ hR hn _ _ p hx (by omega) (by (repeat rw [up2_row (by omega)]); exact hBD.okS.1)) dX8_looks_70 mlX8_149 mtX8_stageAt ivX8_stageAt rfl rfl ⟨by omega, by omega⟩ (by decide) rfl rfl (by decide) (Nat.le_of_ble_eq_true rfl) rfl rfl ?_
  rintro _ _ _ _ ⟨rfl, rfl, rfl, rfl⟩
  repeat rw [up2_row (by omega)]
  refine V_iast (len := 6) 4 dX8_looks_73 rfl ⟨by omega, by omega⟩ (by decide) (by omega) ?_
  refine V_aload_n dX8_looks_74 rfl ?_
  refine V_getr (b := 177) 8 10 dX8_looks_75 (Or.inl lkX8_21) rfl rfl ⟨by omega, by omega⟩ (hR _ _ _ rfl) ?_
  refine V_iconst (v := 5) dX8_looks_78 rfl ?_
  refine V_iload_n dX8_looks_79 rfl ?_
  refine V_iconst (v := -1) dX8_looks_80 rfl ?_
  refine V_icmp_ne (tgt := 89) dX8_looks_81 (by decide) (fun c81 => ?_) (fun c81 => ?_)
  · refine V_iload_n dX8_looks_89 rfl ?_
    refine V_iast (len := 6) 5 dX8_looks_90 rfl ⟨by omega, by omega⟩ (by decide) (by omega) ?_
    refine hcut _ (by intro a k hk; simp only [up2]; repeat rw [if_neg (by unfold byM at hk; omega)]) ?_
    intro q hq
    match q, hq with
    | 0, _ => simp [up2, nFacts]
    | 1, _ => simp [up2, nFacts]
    | 2, _ => simp [up2, nFacts]
    | 3, _ => simp [up2, nFacts]
    | 4, _ => simp [up2, nFacts]
    | 5, _ => first | (simp [up2, nFacts, hFact, c81]; done) | (have c9 := Classical.not_not.mp c81; simp [up2, nFacts, hFact, c9])
  · refine V_bipush (v := 9) dX8_looks_84 rfl ?_
    refine V_goto (tgt := 90) dX8_looks_86 (by decide) ?_
    refine V_iast (len := 6) 5 dX8_looks_90 rfl ⟨by omega, by omega⟩ (by decide) (by omega) ?_
    refine hcut _ (by intro a k hk; simp only [up2]; repeat rw [if_neg (by unfold byM at hk; omega)]) ?_
    intro q hq
    match q, hq with
    | 0, _ => simp [up2, nFacts]
    | 1, _ => simp [up2, nFacts]
    | 2, _ => simp [up2, nFacts]
    | 3, _ => simp [up2, nFacts]
    | 4, _ => simp [up2, nFacts]
    | 5, _ => first | (simp [up2, nFacts, hFact, c81]; done) | (have c9 := Classical.not_not.mp c81; simp [up2, nFacts, hFact, c9])
