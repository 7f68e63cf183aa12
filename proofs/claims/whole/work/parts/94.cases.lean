/-! the law: its cases -/
def lawQ : QT := fun r _ _ _ => r = some (.int 1)
def NX (len m i : Nat) : Prop := ∀ (n : Nat) (mi : MI) (mr : MR) (c : CT) (x : Int32), INV n mi mr c → mr 0 0 = some len → x.toInt = (i : Int) → V KL_law 33 m (4 * m) lawQ 18 [some (.ref 0), some (.ref 32), some (.ref 173), some (.int x)] [] n mi mr
theorem lg_cmp_s (x : Int64) : lg_cmp x x = 0 := by
  unfold lg_cmp
  rw [if_neg (Int64.lt_irrefl), if_pos rfl]
set_option maxRecDepth 4000 in
theorem law_feed {len m i n : Nat} {mi : MI} {mr : MR} {c : CT} {x : Int32} (I : INV n mi mr c) (hlen : mr 0 0 = some len) (hx : x.toInt = (i : Int)) (hi : i + 5 ≤ len) (hl : len ≤ 2560) (ih : NX len m (i + 5)) : V KL_law 33 (m + 1) (4 * (m + 1)) lawQ 196 [some (.ref 0), some (.ref 32), some (.ref 173), some (.int x)] [] n mi mr := by
  have hR := I.1
  have hn := I.2.1
  have hBD := I.2.2.1
  skip
  refine V_aload_n dL_law_196 rfl ?_
  refine V_aload_n dL_law_197 rfl ?_
  refine V_iload_n dL_law_198 rfl ?_
  refine V_iconst (v := 1) dL_law_199 rfl ?_
  refine V_iadd dL_law_200 ?_
  refine V_scr (len := len) (i + 1) dL_law_201 hlen (ix_add hx (by decide) (by omega)) (by omega) ?_
  refine V_callV (ci := 7) (qX7_feed n mi mr c I (mi 0 (i + 1))) dL_law_202 mlL_13 mtX7_feed ivX7_feed rfl rfl ⟨by omega, by omega⟩ (by decide) rfl rfl (by decide) (Nat.le_of_ble_eq_true rfl) rfl rfl ?_
  rintro _ _ _ _ ⟨rfl, rfl, rfl, rfl⟩
  have w0 := w_feed I (mi 0 (i + 1)) 0 (Or.inl rfl)
  have w4 := w_feed I (mi 0 (i + 1)) 174 (Or.inr rfl)
  refine V_aload_n dL_law_205 rfl ?_
  refine V_aload_n dL_law_206 rfl ?_
  refine V_iload_n dL_law_207 rfl ?_
  refine V_iconst (v := 1) dL_law_208 rfl ?_
  refine V_iadd dL_law_209 ?_
  refine V_scr (len := len) (i + 1) dL_law_210 hlen (ix_add hx (by decide) (by omega)) (by omega) ?_
  refine V_callV (ci := 8) (qX8_feed n (cFeed mi (mi 0 (i + 1))) mr c hR hn (by rw [w4]; exact hBD) ((cFeed mi (mi 0 (i + 1))) 0 (i + 1))) dL_law_211 mlL_17 mtX8_feed ivX8_feed rfl rfl ⟨by omega, by omega⟩ (by decide) rfl rfl (by decide) (Nat.le_of_ble_eq_true rfl) rfl rfl ?_
  rintro _ _ _ _ ⟨rfl, rfl, rfl, rfl⟩
  refine V_icmp_eq (tgt := 1259) dL_law_214 (by decide) (fun c214 => ?_) (fun c214 => absurd (by rw [w0, w4]) c214)
  refine V_iinc (v := _ + (5)) (L' := [_, _, _, _]) dL_law_1259 (by decide) rfl rfl rfl rfl ?_
  refine V_goto (tgt := 18) dL_law_1262 (by decide) ?_
  have hx5 : (x + 5).toInt = ((i + 5 : Nat) : Int) := ix_add hx (by decide) (by omega)
  obtain ⟨c2, I2⟩ := i_feed I (mi 0 (i + 1))
  exact (ih _ _ _ c2 _ (by rw [w0]; exact I2) hlen hx5).less (by omega) (by show 4 * m ≤ 4 * (m + 1); omega)
set_option maxRecDepth 4000 in
theorem law_village {len m i n : Nat} {mi : MI} {mr : MR} {c : CT} {x : Int32} (I : INV n mi mr c) (hlen : mr 0 0 = some len) (hx : x.toInt = (i : Int)) (hi : i + 5 ≤ len) (hl : len ≤ 2560) (ih : NX len m (i + 5)) : V KL_law 33 (m + 1) (4 * (m + 1)) lawQ 219 [some (.ref 0), some (.ref 32), some (.ref 173), some (.int x)] [] n mi mr := by
  have hR := I.1
  have hn := I.2.1
  have hBD := I.2.2.1
  skip
  refine V_aload_n dL_law_219 rfl ?_
  refine V_callV (cl' := m) (sl' := 4 * m) (ci := 7) (qX7_village n mi mr c I) dL_law_220 mlL_18 mtX7_village ivX7_village rfl rfl ⟨by omega, by omega⟩ (by decide) rfl rfl (by decide) (Nat.le_of_ble_eq_true rfl) (by omega) (by omega) ?_
  rintro _ n1 m1 r1 ⟨rfl, hq⟩
  obtain ⟨hn1, hR1, hl1, hw⟩ := w_vil I hq
  have hlen := hl1.trans hlen
  have w0 := hw 0 (Or.inl rfl)
  have w4 := hw 174 (Or.inr rfl)
  refine V_aload_n dL_law_223 rfl ?_
  refine V_callV (ci := 8) (qX8_village n1 m1 r1 c hR1 hn1 (by rw [w4]; exact hBD)) dL_law_224 mlL_22 mtX8_village ivX8_village rfl rfl ⟨by omega, by omega⟩ (by decide) rfl rfl (by decide) (Nat.le_of_ble_eq_true rfl) rfl rfl ?_
  rintro _ _ m2 _ ⟨rfl, rfl, rfl, hv2⟩
  refine V_icmp_eq (tgt := 1259) dL_law_227 (by decide) (fun c227 => ?_) (fun c227 => absurd (by rw [w4]) c227)
  refine V_iinc (v := _ + (5)) (L' := [_, _, _, _]) dL_law_1259 (by decide) rfl rfl rfl rfl ?_
  refine V_goto (tgt := 18) dL_law_1262 (by decide) ?_
  have hx5 : (x + 5).toInt = ((i + 5 : Nat) : Int) := ix_add hx (by decide) (by omega)
  obtain ⟨c2, I2⟩ := i_village I hq hv2
  exact (ih _ _ _ c2 _ I2 hlen hx5).less (by omega) (by exact Nat.le_refl (4 * m))
set_option maxRecDepth 4000 in
theorem law_person {len m i n : Nat} {mi : MI} {mr : MR} {c : CT} {x : Int32} (I : INV n mi mr c) (hlen : mr 0 0 = some len) (hx : x.toInt = (i : Int)) (hi : i + 5 ≤ len) (hl : len ≤ 2560) (ih : NX len m (i + 5)) : V KL_law 33 (m + 1) (4 * (m + 1)) lawQ 232 [some (.ref 0), some (.ref 32), some (.ref 173), some (.int x)] [] n mi mr := by
  have hR := I.1
  have hn := I.2.1
  have hBD := I.2.2.1
  skip
  refine V_aload_n dL_law_232 rfl ?_
  refine V_aload_n dL_law_233 rfl ?_
  refine V_iload_n dL_law_234 rfl ?_
  refine V_iconst (v := 1) dL_law_235 rfl ?_
  refine V_iadd dL_law_236 ?_
  refine V_scr (len := len) (i + 1) dL_law_237 hlen (ix_add hx (by decide) (by omega)) (by omega) ?_
  refine V_aload_n dL_law_238 rfl ?_
  refine V_iload_n dL_law_239 rfl ?_
  refine V_iconst (v := 2) dL_law_240 rfl ?_
  refine V_iadd dL_law_241 ?_
  refine V_scr (len := len) (i + 2) dL_law_242 hlen (ix_add hx (by decide) (by omega)) (by omega) ?_
  refine V_aload_n dL_law_243 rfl ?_
  refine V_iload_n dL_law_244 rfl ?_
  refine V_iconst (v := 3) dL_law_245 rfl ?_
  refine V_iadd dL_law_246 ?_
  refine V_scr (len := len) (i + 3) dL_law_247 hlen (ix_add hx (by decide) (by omega)) (by omega) ?_
  refine V_aload_n dL_law_248 rfl ?_
  refine V_iload_n dL_law_249 rfl ?_
  refine V_iconst (v := 4) dL_law_250 rfl ?_
  refine V_iadd dL_law_251 ?_
  refine V_scr (len := len) (i + 4) dL_law_252 hlen (ix_add hx (by decide) (by omega)) (by omega) ?_
  refine V_callV (ci := 7) (qX7_person n mi mr c I (mi 0 (i + 1)) (mi 0 (i + 2)) (mi 0 (i + 3)) (mi 0 (i + 4))) dL_law_253 mlL_23 mtX7_person ivX7_person rfl rfl ⟨by omega, by omega⟩ (by decide) rfl rfl (by decide) (Nat.le_of_ble_eq_true rfl) rfl rfl ?_
  rintro _ _ m1 _ ⟨rfl, rfl, rfl, hp⟩
  have w0 := w_person I hp 0 (Or.inl rfl)
  have w4 := w_person I hp 174 (Or.inr rfl)
  refine V_aload_n dL_law_256 rfl ?_
  refine V_aload_n dL_law_257 rfl ?_
  refine V_iload_n dL_law_258 rfl ?_
  refine V_iconst (v := 1) dL_law_259 rfl ?_
  refine V_iadd dL_law_260 ?_
  refine V_scr (len := len) (i + 1) dL_law_261 hlen (ix_add hx (by decide) (by omega)) (by omega) ?_
  refine V_aload_n dL_law_262 rfl ?_
  refine V_iload_n dL_law_263 rfl ?_
  refine V_iconst (v := 2) dL_law_264 rfl ?_
  refine V_iadd dL_law_265 ?_
  refine V_scr (len := len) (i + 2) dL_law_266 hlen (ix_add hx (by decide) (by omega)) (by omega) ?_
  refine V_aload_n dL_law_267 rfl ?_
  refine V_iload_n dL_law_268 rfl ?_
  refine V_iconst (v := 3) dL_law_269 rfl ?_
  refine V_iadd dL_law_270 ?_
  refine V_scr (len := len) (i + 3) dL_law_271 hlen (ix_add hx (by decide) (by omega)) (by omega) ?_
  refine V_aload_n dL_law_272 rfl ?_
  refine V_iload_n dL_law_273 rfl ?_
  refine V_iconst (v := 4) dL_law_274 rfl ?_
  refine V_iadd dL_law_275 ?_
  refine V_scr (len := len) (i + 4) dL_law_276 hlen (ix_add hx (by decide) (by omega)) (by omega) ?_
  refine V_callV (ci := 8) (qX8_person n m1 mr c hR hn (by rw [w4]; exact hBD) (m1 0 (i + 1)) (m1 0 (i + 2)) (m1 0 (i + 3)) (m1 0 (i + 4))) dL_law_277 mlL_27 mtX8_person ivX8_person rfl rfl ⟨by omega, by omega⟩ (by decide) rfl rfl (by decide) (Nat.le_of_ble_eq_true rfl) rfl rfl ?_
  rintro _ _ _ _ ⟨rfl, rfl, rfl, rfl⟩
  refine V_icmp_eq (tgt := 1259) dL_law_280 (by decide) (fun c280 => ?_) (fun c280 => absurd (by rw [w0, w4]) c280)
  refine V_iinc (v := _ + (5)) (L' := [_, _, _, _]) dL_law_1259 (by decide) rfl rfl rfl rfl ?_
  refine V_goto (tgt := 18) dL_law_1262 (by decide) ?_
  have hx5 : (x + 5).toInt = ((i + 5 : Nat) : Int) := ix_add hx (by decide) (by omega)
  obtain ⟨c2, I2⟩ := i_person I (mi 0 (i + 1)) (mi 0 (i + 2)) (mi 0 (i + 3)) (mi 0 (i + 4)) m1 hp
  exact (ih _ _ _ c2 _ (by rw [w0]; exact I2) hlen hx5).less (by omega) (by show 4 * m ≤ 4 * (m + 1); omega)
set_option maxRecDepth 4000 in
theorem law_vintage {len m i n : Nat} {mi : MI} {mr : MR} {c : CT} {x : Int32} (I : INV n mi mr c) (hlen : mr 0 0 = some len) (hx : x.toInt = (i : Int)) (hi : i + 5 ≤ len) (hl : len ≤ 2560) (ih : NX len m (i + 5)) : V KL_law 33 (m + 1) (4 * (m + 1)) lawQ 285 [some (.ref 0), some (.ref 32), some (.ref 173), some (.int x)] [] n mi mr := by
  have hR := I.1
  have hn := I.2.1
  have hBD := I.2.2.1
  skip
  refine V_aload_n dL_law_285 rfl ?_
  refine V_aload_n dL_law_286 rfl ?_
  refine V_iload_n dL_law_287 rfl ?_
  refine V_iconst (v := 1) dL_law_288 rfl ?_
  refine V_iadd dL_law_289 ?_
  refine V_scr (len := len) (i + 1) dL_law_290 hlen (ix_add hx (by decide) (by omega)) (by omega) ?_
  refine V_aload_n dL_law_291 rfl ?_
  refine V_iload_n dL_law_292 rfl ?_
  refine V_iconst (v := 2) dL_law_293 rfl ?_
  refine V_iadd dL_law_294 ?_
  refine V_scr (len := len) (i + 2) dL_law_295 hlen (ix_add hx (by decide) (by omega)) (by omega) ?_
  refine V_callV (ci := 7) (qX7_vintage n mi mr c I (mi 0 (i + 1)) (mi 0 (i + 2))) dL_law_296 mlL_28 mtX7_vintage ivX7_vintage rfl rfl ⟨by omega, by omega⟩ (by decide) rfl rfl (by decide) (Nat.le_of_ble_eq_true rfl) rfl rfl ?_
  rintro _ _ _ _ ⟨rfl, rfl, rfl, rfl⟩
  have w0 := w_vintage I (mi 0 (i + 1)) (mi 0 (i + 2)) 0 (Or.inl rfl)
  have w4 := w_vintage I (mi 0 (i + 1)) (mi 0 (i + 2)) 174 (Or.inr rfl)
  refine V_aload_n dL_law_299 rfl ?_
  refine V_aload_n dL_law_300 rfl ?_
  refine V_iload_n dL_law_301 rfl ?_
  refine V_iconst (v := 1) dL_law_302 rfl ?_
  refine V_iadd dL_law_303 ?_
  refine V_scr (len := len) (i + 1) dL_law_304 hlen (ix_add hx (by decide) (by omega)) (by omega) ?_
  refine V_aload_n dL_law_305 rfl ?_
  refine V_iload_n dL_law_306 rfl ?_
  refine V_iconst (v := 2) dL_law_307 rfl ?_
  refine V_iadd dL_law_308 ?_
  refine V_scr (len := len) (i + 2) dL_law_309 hlen (ix_add hx (by decide) (by omega)) (by omega) ?_
  refine V_callV (ci := 8) (qX8_vintage n (cVintage mi (mi 0 (i + 1)) (mi 0 (i + 2))) mr c hR hn (by rw [w4]; exact hBD) ((cVintage mi (mi 0 (i + 1)) (mi 0 (i + 2))) 0 (i + 1)) ((cVintage mi (mi 0 (i + 1)) (mi 0 (i + 2))) 0 (i + 2))) dL_law_310 mlL_32 mtX8_vintage ivX8_vintage rfl rfl ⟨by omega, by omega⟩ (by decide) rfl rfl (by decide) (Nat.le_of_ble_eq_true rfl) rfl rfl ?_
  rintro _ _ _ _ ⟨rfl, rfl, rfl, rfl⟩
  refine V_icmp_eq (tgt := 1259) dL_law_313 (by decide) (fun c313 => ?_) (fun c313 => absurd (by rw [w0, w4]) c313)
  refine V_iinc (v := _ + (5)) (L' := [_, _, _, _]) dL_law_1259 (by decide) rfl rfl rfl rfl ?_
  refine V_goto (tgt := 18) dL_law_1262 (by decide) ?_
  have hx5 : (x + 5).toInt = ((i + 5 : Nat) : Int) := ix_add hx (by decide) (by omega)
  obtain ⟨c2, I2⟩ := i_vintage I (mi 0 (i + 1)) (mi 0 (i + 2))
  exact (ih _ _ _ c2 _ (by rw [w0]; exact I2) hlen hx5).less (by omega) (by show 4 * m ≤ 4 * (m + 1); omega)
set_option maxRecDepth 4000 in
theorem law_of {len m i n : Nat} {mi : MI} {mr : MR} {c : CT} {x : Int32} (I : INV n mi mr c) (hlen : mr 0 0 = some len) (hx : x.toInt = (i : Int)) (hi : i + 5 ≤ len) (hl : len ≤ 2560) (ih : NX len m (i + 5)) : V KL_law 33 (m + 1) (4 * (m + 1)) lawQ 318 [some (.ref 0), some (.ref 32), some (.ref 173), some (.int x)] [] n mi mr := by
  have hR := I.1
  have hn := I.2.1
  have hBD := I.2.2.1
  obtain ⟨nc, e, b, hO, hMV⟩ := I.mv
  refine V_aload_n dL_law_318 rfl ?_
  refine V_aload_n dL_law_319 rfl ?_
  refine V_iload_n dL_law_320 rfl ?_
  refine V_iconst (v := 1) dL_law_321 rfl ?_
  refine V_iadd dL_law_322 ?_
  refine V_scr (len := len) (i + 1) dL_law_323 hlen (ix_add hx (by decide) (by omega)) (by omega) ?_
  refine V_aload_n dL_law_324 rfl ?_
  refine V_iload_n dL_law_325 rfl ?_
  refine V_iconst (v := 2) dL_law_326 rfl ?_
  refine V_iadd dL_law_327 ?_
  refine V_scr (len := len) (i + 2) dL_law_328 hlen (ix_add hx (by decide) (by omega)) (by omega) ?_
  refine V_callV (ci := 7) (qX7_of n mi mr c I nc e hO (mi 0 (i + 1)) (mi 0 (i + 2))) dL_law_329 mlL_33 mtX7_of ivX7_of rfl rfl ⟨by omega, by omega⟩ (by decide) rfl rfl (by decide) (Nat.le_of_ble_eq_true rfl) rfl rfl ?_
  rintro _ _ m1 _ ⟨rfl, rfl, rfl, ho1⟩
  have ho1 : Off scrC mi m1 := ho1.mono (fun a k q => by unfold offF at q; unfold scrC; omega)
  have w0 : m1 0 = mi 0 := ho1.fn (fun k => by unfold scrC; omega)
  have w4 : m1 174 = mi 174 := ho1.fn (fun k => by unfold scrC; omega)
  refine V_aload_n dL_law_332 rfl ?_
  refine V_aload_n dL_law_333 rfl ?_
  refine V_iload_n dL_law_334 rfl ?_
  refine V_iconst (v := 1) dL_law_335 rfl ?_
  refine V_iadd dL_law_336 ?_
  refine V_scr (len := len) (i + 1) dL_law_337 hlen (ix_add hx (by decide) (by omega)) (by omega) ?_
  refine V_aload_n dL_law_338 rfl ?_
  refine V_iload_n dL_law_339 rfl ?_
  refine V_iconst (v := 2) dL_law_340 rfl ?_
  refine V_iadd dL_law_341 ?_
  refine V_scr (len := len) (i + 2) dL_law_342 hlen (ix_add hx (by decide) (by omega)) (by omega) ?_
  refine V_callV (ci := 8) (qX8_of n m1 mr c hR hn (by rw [w4]; exact hBD) nc e (mi (hvOf (mi 174) + 1)) (mi (hvOf (mi 174) + 2)) b (by rw [w4]; exact hMV) (m1 0 (i + 1)) (m1 0 (i + 2))) dL_law_343 mlL_36 mtX8_of ivX8_of rfl rfl ⟨by omega, by omega⟩ (by decide) rfl rfl (by decide) (Nat.le_of_ble_eq_true rfl) rfl rfl ?_
  rintro _ _ m2 _ ⟨rfl, rfl, rfl, ho2⟩
  have ho2 := byM_scr ho2
  refine V_icmp_eq (tgt := 1259) dL_law_346 (by decide) (fun c346 => ?_) (fun c346 => absurd (by rw [w0, w4]) c346)
  refine V_iinc (v := _ + (5)) (L' := [_, _, _, _]) dL_law_1259 (by decide) rfl rfl rfl rfl ?_
  refine V_goto (tgt := 18) dL_law_1262 (by decide) ?_
  have hx5 : (x + 5).toInt = ((i + 5 : Nat) : Int) := ix_add hx (by decide) (by omega)
  exact (ih _ _ _ c _ ((I.offC ho1).offM ho2) hlen hx5).less (by omega) (by show 4 * m ≤ 4 * (m + 1); omega)
set_option maxRecDepth 4000 in
theorem law_row {len m i n : Nat} {mi : MI} {mr : MR} {c : CT} {x : Int32} (I : INV n mi mr c) (hlen : mr 0 0 = some len) (hx : x.toInt = (i : Int)) (hi : i + 5 ≤ len) (hl : len ≤ 2560) (ih : NX len m (i + 5)) : V KL_law 33 (m + 1) (4 * (m + 1)) lawQ 351 [some (.ref 0), some (.ref 32), some (.ref 173), some (.int x)] [] n mi mr := by
  have hR := I.1
  have hn := I.2.1
  have hBD := I.2.2.1
  skip
  refine V_aload_n dL_law_351 rfl ?_
  refine V_aload_n dL_law_352 rfl ?_
  refine V_iload_n dL_law_353 rfl ?_
  refine V_iconst (v := 1) dL_law_354 rfl ?_
  refine V_iadd dL_law_355 ?_
  refine V_scr (len := len) (i + 1) dL_law_356 hlen (ix_add hx (by decide) (by omega)) (by omega) ?_
  refine V_aload_n dL_law_357 rfl ?_
  refine V_iload_n dL_law_358 rfl ?_
  refine V_iconst (v := 2) dL_law_359 rfl ?_
  refine V_iadd dL_law_360 ?_
  refine V_scr (len := len) (i + 2) dL_law_361 hlen (ix_add hx (by decide) (by omega)) (by omega) ?_
  refine V_aload_n dL_law_362 rfl ?_
  refine V_iload_n dL_law_363 rfl ?_
  refine V_iconst (v := 3) dL_law_364 rfl ?_
  refine V_iadd dL_law_365 ?_
  refine V_scr (len := len) (i + 3) dL_law_366 hlen (ix_add hx (by decide) (by omega)) (by omega) ?_
  refine V_callV (ci := 7) (qX7_row n mi mr c I (mi 0 (i + 1)) (mi 0 (i + 2)) (mi 0 (i + 3))) dL_law_367 mlL_37 mtX7_row ivX7_row rfl rfl ⟨by omega, by omega⟩ (by decide) rfl rfl (by decide) (Nat.le_of_ble_eq_true rfl) rfl rfl ?_
  rintro _ _ _ _ ⟨rfl, rfl, rfl, rfl⟩
  have w0 := w_row I (mi 0 (i + 1)) (mi 0 (i + 2)) (mi 0 (i + 3)) 0 (Or.inl rfl)
  have w4 := w_row I (mi 0 (i + 1)) (mi 0 (i + 2)) (mi 0 (i + 3)) 174 (Or.inr rfl)
  refine V_aload_n dL_law_370 rfl ?_
  refine V_aload_n dL_law_371 rfl ?_
  refine V_iload_n dL_law_372 rfl ?_
  refine V_iconst (v := 1) dL_law_373 rfl ?_
  refine V_iadd dL_law_374 ?_
  refine V_scr (len := len) (i + 1) dL_law_375 hlen (ix_add hx (by decide) (by omega)) (by omega) ?_
  refine V_aload_n dL_law_376 rfl ?_
  refine V_iload_n dL_law_377 rfl ?_
  refine V_iconst (v := 2) dL_law_378 rfl ?_
  refine V_iadd dL_law_379 ?_
  refine V_scr (len := len) (i + 2) dL_law_380 hlen (ix_add hx (by decide) (by omega)) (by omega) ?_
  refine V_aload_n dL_law_381 rfl ?_
  refine V_iload_n dL_law_382 rfl ?_
  refine V_iconst (v := 3) dL_law_383 rfl ?_
  refine V_iadd dL_law_384 ?_
  refine V_scr (len := len) (i + 3) dL_law_385 hlen (ix_add hx (by decide) (by omega)) (by omega) ?_
  refine V_callV (ci := 8) (qX8_row n (cRow mi (mi 0 (i + 1)) (mi 0 (i + 2)) (mi 0 (i + 3))) mr c hR hn (by rw [w4]; exact hBD) ((cRow mi (mi 0 (i + 1)) (mi 0 (i + 2)) (mi 0 (i + 3))) 0 (i + 1)) ((cRow mi (mi 0 (i + 1)) (mi 0 (i + 2)) (mi 0 (i + 3))) 0 (i + 2)) ((cRow mi (mi 0 (i + 1)) (mi 0 (i + 2)) (mi 0 (i + 3))) 0 (i + 3))) dL_law_386 mlL_41 mtX8_row ivX8_row rfl rfl ⟨by omega, by omega⟩ (by decide) rfl rfl (by decide) (Nat.le_of_ble_eq_true rfl) rfl rfl ?_
  rintro _ _ _ _ ⟨rfl, rfl, rfl, rfl⟩
  refine V_icmp_eq (tgt := 1259) dL_law_389 (by decide) (fun c389 => ?_) (fun c389 => absurd (by rw [w0, w4]) c389)
  refine V_iinc (v := _ + (5)) (L' := [_, _, _, _]) dL_law_1259 (by decide) rfl rfl rfl rfl ?_
  refine V_goto (tgt := 18) dL_law_1262 (by decide) ?_
  have hx5 : (x + 5).toInt = ((i + 5 : Nat) : Int) := ix_add hx (by decide) (by omega)
  obtain ⟨c2, I2⟩ := i_row I (mi 0 (i + 1)) (mi 0 (i + 2)) (mi 0 (i + 3))
  exact (ih _ _ _ c2 _ (by rw [w0]; exact I2) hlen hx5).less (by omega) (by show 4 * m ≤ 4 * (m + 1); omega)
set_option maxRecDepth 4000 in
theorem law_wine {len m i n : Nat} {mi : MI} {mr : MR} {c : CT} {x : Int32} (I : INV n mi mr c) (hlen : mr 0 0 = some len) (hx : x.toInt = (i : Int)) (hi : i + 5 ≤ len) (hl : len ≤ 2560) (ih : NX len m (i + 5)) : V KL_law 33 (m + 1) (4 * (m + 1)) lawQ 394 [some (.ref 0), some (.ref 32), some (.ref 173), some (.int x)] [] n mi mr := by
  have hR := I.1
  have hn := I.2.1
  have hBD := I.2.2.1
  skip
  refine V_aload_n dL_law_394 rfl ?_
  refine V_aload_n dL_law_395 rfl ?_
  refine V_iload_n dL_law_396 rfl ?_
  refine V_iconst (v := 1) dL_law_397 rfl ?_
  refine V_iadd dL_law_398 ?_
  refine V_scr (len := len) (i + 1) dL_law_399 hlen (ix_add hx (by decide) (by omega)) (by omega) ?_
  refine V_aload_n dL_law_400 rfl ?_
  refine V_iload_n dL_law_401 rfl ?_
  refine V_iconst (v := 2) dL_law_402 rfl ?_
  refine V_iadd dL_law_403 ?_
  refine V_scr (len := len) (i + 2) dL_law_404 hlen (ix_add hx (by decide) (by omega)) (by omega) ?_
  refine V_callV (ci := 7) (qX7_wine n mi mr c I (mi 0 (i + 1)) (mi 0 (i + 2))) dL_law_405 mlL_42 mtX7_wine ivX7_wine rfl rfl ⟨by omega, by omega⟩ (by decide) rfl rfl (by decide) (Nat.le_of_ble_eq_true rfl) rfl rfl ?_
  rintro _ _ _ _ ⟨rfl, rfl, rfl, rfl⟩
  refine V_aload_n dL_law_408 rfl ?_
  refine V_aload_n dL_law_409 rfl ?_
  refine V_iload_n dL_law_410 rfl ?_
  refine V_iconst (v := 1) dL_law_411 rfl ?_
  refine V_iadd dL_law_412 ?_
  refine V_scr (len := len) (i + 1) dL_law_413 hlen (ix_add hx (by decide) (by omega)) (by omega) ?_
  refine V_aload_n dL_law_414 rfl ?_
  refine V_iload_n dL_law_415 rfl ?_
  refine V_iconst (v := 2) dL_law_416 rfl ?_
  refine V_iadd dL_law_417 ?_
  refine V_scr (len := len) (i + 2) dL_law_418 hlen (ix_add hx (by decide) (by omega)) (by omega) ?_
  refine V_callV (ci := 8) (qX8_wine n mi mr c hR hn hBD (mi 0 (i + 1)) (mi 0 (i + 2))) dL_law_419 mlL_45 mtX8_wine ivX8_wine rfl rfl ⟨by omega, by omega⟩ (by decide) rfl rfl (by decide) (Nat.le_of_ble_eq_true rfl) rfl rfl ?_
  rintro _ _ _ _ ⟨rfl, rfl, rfl, rfl⟩
  refine V_icmp_eq (tgt := 1259) dL_law_422 (by decide) (fun c422 => ?_) (fun c422 => absurd rfl c422)
  refine V_iinc (v := _ + (5)) (L' := [_, _, _, _]) dL_law_1259 (by decide) rfl rfl rfl rfl ?_
  refine V_goto (tgt := 18) dL_law_1262 (by decide) ?_
  have hx5 : (x + 5).toInt = ((i + 5 : Nat) : Int) := ix_add hx (by decide) (by omega)
  exact (ih _ _ _ c _ I hlen hx5).less (by omega) (by show 4 * m ≤ 4 * (m + 1); omega)
set_option maxRecDepth 4000 in
theorem law_stock {len m i n : Nat} {mi : MI} {mr : MR} {c : CT} {x : Int32} (I : INV n mi mr c) (hlen : mr 0 0 = some len) (hx : x.toInt = (i : Int)) (hi : i + 5 ≤ len) (hl : len ≤ 2560) (ih : NX len m (i + 5)) : V KL_law 33 (m + 1) (4 * (m + 1)) lawQ 427 [some (.ref 0), some (.ref 32), some (.ref 173), some (.int x)] [] n mi mr := by
  have hR := I.1
  have hn := I.2.1
  have hBD := I.2.2.1
  skip
  refine V_aload_n dL_law_427 rfl ?_
  refine V_aload_n dL_law_428 rfl ?_
  refine V_iload_n dL_law_429 rfl ?_
  refine V_iconst (v := 1) dL_law_430 rfl ?_
  refine V_iadd dL_law_431 ?_
  refine V_scr (len := len) (i + 1) dL_law_432 hlen (ix_add hx (by decide) (by omega)) (by omega) ?_
  refine V_aload_n dL_law_433 rfl ?_
  refine V_iload_n dL_law_434 rfl ?_
  refine V_iconst (v := 2) dL_law_435 rfl ?_
  refine V_iadd dL_law_436 ?_
  refine V_scr (len := len) (i + 2) dL_law_437 hlen (ix_add hx (by decide) (by omega)) (by omega) ?_
  refine V_callV (ci := 7) (qX7_stock n mi mr c I (mi 0 (i + 1)) (mi 0 (i + 2))) dL_law_438 mlL_46 mtX7_stock ivX7_stock rfl rfl ⟨by omega, by omega⟩ (by decide) rfl rfl (by decide) (Nat.le_of_ble_eq_true rfl) rfl rfl ?_
  rintro _ _ _ _ ⟨rfl, rfl, rfl, rfl⟩
  have w0 := w_stock I (mi 0 (i + 1)) (mi 0 (i + 2)) 0 (Or.inl rfl)
  have w4 := w_stock I (mi 0 (i + 1)) (mi 0 (i + 2)) 174 (Or.inr rfl)
  refine V_aload_n dL_law_441 rfl ?_
  refine V_aload_n dL_law_442 rfl ?_
  refine V_iload_n dL_law_443 rfl ?_
  refine V_iconst (v := 1) dL_law_444 rfl ?_
  refine V_iadd dL_law_445 ?_
  refine V_scr (len := len) (i + 1) dL_law_446 hlen (ix_add hx (by decide) (by omega)) (by omega) ?_
  refine V_aload_n dL_law_447 rfl ?_
  refine V_iload_n dL_law_448 rfl ?_
  refine V_iconst (v := 2) dL_law_449 rfl ?_
  refine V_iadd dL_law_450 ?_
  refine V_scr (len := len) (i + 2) dL_law_451 hlen (ix_add hx (by decide) (by omega)) (by omega) ?_
  refine V_callV (ci := 8) (qX8_stock n (cStock mi (mi 0 (i + 1)) (mi 0 (i + 2))) mr c hR hn (by rw [w4]; exact hBD) ((cStock mi (mi 0 (i + 1)) (mi 0 (i + 2))) 0 (i + 1)) ((cStock mi (mi 0 (i + 1)) (mi 0 (i + 2))) 0 (i + 2))) dL_law_452 mlL_49 mtX8_stock ivX8_stock rfl rfl ⟨by omega, by omega⟩ (by decide) rfl rfl (by decide) (Nat.le_of_ble_eq_true rfl) rfl rfl ?_
  rintro _ _ _ _ ⟨rfl, rfl, rfl, rfl⟩
  refine V_icmp_eq (tgt := 1259) dL_law_455 (by decide) (fun c455 => ?_) (fun c455 => absurd (by rw [w0, w4]) c455)
  refine V_iinc (v := _ + (5)) (L' := [_, _, _, _]) dL_law_1259 (by decide) rfl rfl rfl rfl ?_
  refine V_goto (tgt := 18) dL_law_1262 (by decide) ?_
  have hx5 : (x + 5).toInt = ((i + 5 : Nat) : Int) := ix_add hx (by decide) (by omega)
  obtain ⟨c2, I2⟩ := i_stock I (mi 0 (i + 1)) (mi 0 (i + 2))
  exact (ih _ _ _ c2 _ (by rw [w0]; exact I2) hlen hx5).less (by omega) (by show 4 * m ≤ 4 * (m + 1); omega)
set_option maxRecDepth 4000 in
theorem law_told {len m i n : Nat} {mi : MI} {mr : MR} {c : CT} {x : Int32} (I : INV n mi mr c) (hlen : mr 0 0 = some len) (hx : x.toInt = (i : Int)) (hi : i + 5 ≤ len) (hl : len ≤ 2560) (ih : NX len m (i + 5)) : V KL_law 33 (m + 1) (4 * (m + 1)) lawQ 460 [some (.ref 0), some (.ref 32), some (.ref 173), some (.int x)] [] n mi mr := by
  have hR := I.1
  have hn := I.2.1
  have hBD := I.2.2.1
  obtain ⟨nc, e, b, hO, hMV⟩ := I.mv
  refine V_aload_n dL_law_460 rfl ?_
  refine V_aload_n dL_law_461 rfl ?_
  refine V_iload_n dL_law_462 rfl ?_
  refine V_iconst (v := 1) dL_law_463 rfl ?_
  refine V_iadd dL_law_464 ?_
  refine V_scr (len := len) (i + 1) dL_law_465 hlen (ix_add hx (by decide) (by omega)) (by omega) ?_
  refine V_callV (ci := 7) (qX7_told n mi mr c I nc e hO (mi 0 (i + 1))) dL_law_466 mlL_50 mtX7_told ivX7_told rfl rfl ⟨by omega, by omega⟩ (by decide) rfl rfl (by decide) (Nat.le_of_ble_eq_true rfl) rfl rfl ?_
  rintro _ _ m1 _ ⟨rfl, rfl, rfl, ho1⟩
  have ho1 : Off scrC mi m1 := ho1.mono (fun a k q => by unfold offF at q; unfold scrC; omega)
  have w0 : m1 0 = mi 0 := ho1.fn (fun k => by unfold scrC; omega)
  have w4 : m1 174 = mi 174 := ho1.fn (fun k => by unfold scrC; omega)
  refine V_aload_n dL_law_469 rfl ?_
  refine V_aload_n dL_law_470 rfl ?_
  refine V_iload_n dL_law_471 rfl ?_
  refine V_iconst (v := 1) dL_law_472 rfl ?_
  refine V_iadd dL_law_473 ?_
  refine V_scr (len := len) (i + 1) dL_law_474 hlen (ix_add hx (by decide) (by omega)) (by omega) ?_
  refine V_callV (ci := 8) (qX8_told n m1 mr c hR hn (by rw [w4]; exact hBD) nc e (mi (hvOf (mi 174) + 1)) (mi (hvOf (mi 174) + 2)) b (by rw [w4]; exact hMV) (m1 0 (i + 1))) dL_law_475 mlL_53 mtX8_told ivX8_told rfl rfl ⟨by omega, by omega⟩ (by decide) rfl rfl (by decide) (Nat.le_of_ble_eq_true rfl) rfl rfl ?_
  rintro _ _ m2 _ ⟨rfl, rfl, rfl, ho2⟩
  have ho2 := byM_scr ho2
  refine V_icmp_eq (tgt := 1259) dL_law_478 (by decide) (fun c478 => ?_) (fun c478 => absurd (by rw [w0, w4]) c478)
  refine V_iinc (v := _ + (5)) (L' := [_, _, _, _]) dL_law_1259 (by decide) rfl rfl rfl rfl ?_
  refine V_goto (tgt := 18) dL_law_1262 (by decide) ?_
  have hx5 : (x + 5).toInt = ((i + 5 : Nat) : Int) := ix_add hx (by decide) (by omega)
  exact (ih _ _ _ c _ ((I.offC ho1).offM ho2) hlen hx5).less (by omega) (by show 4 * m ≤ 4 * (m + 1); omega)
set_option maxRecDepth 4000 in
theorem law_pour {len m i n : Nat} {mi : MI} {mr : MR} {c : CT} {x : Int32} (I : INV n mi mr c) (hlen : mr 0 0 = some len) (hx : x.toInt = (i : Int)) (hi : i + 5 ≤ len) (hl : len ≤ 2560) (ih : NX len m (i + 5)) : V KL_law 33 (m + 1) (4 * (m + 1)) lawQ 483 [some (.ref 0), some (.ref 32), some (.ref 173), some (.int x)] [] n mi mr := by
  have hR := I.1
  have hn := I.2.1
  have hBD := I.2.2.1
  skip
  refine V_aload_n dL_law_483 rfl ?_
  refine V_aload_n dL_law_484 rfl ?_
  refine V_iload_n dL_law_485 rfl ?_
  refine V_iconst (v := 1) dL_law_486 rfl ?_
  refine V_iadd dL_law_487 ?_
  refine V_scr (len := len) (i + 1) dL_law_488 hlen (ix_add hx (by decide) (by omega)) (by omega) ?_
  refine V_aload_n dL_law_489 rfl ?_
  refine V_iload_n dL_law_490 rfl ?_
  refine V_iconst (v := 2) dL_law_491 rfl ?_
  refine V_iadd dL_law_492 ?_
  refine V_scr (len := len) (i + 2) dL_law_493 hlen (ix_add hx (by decide) (by omega)) (by omega) ?_
  refine V_callV (ci := 7) (qX7_pour n mi mr c I (mi 0 (i + 1)) (mi 0 (i + 2))) dL_law_494 mlL_54 mtX7_pour ivX7_pour rfl rfl ⟨by omega, by omega⟩ (by decide) rfl rfl (by decide) (Nat.le_of_ble_eq_true rfl) rfl rfl ?_
  rintro _ _ _ _ ⟨rfl, rfl, rfl, rfl⟩
  have w0 := w_pour I (mi 0 (i + 1)) (mi 0 (i + 2)) 0 (Or.inl rfl)
  have w4 := w_pour I (mi 0 (i + 1)) (mi 0 (i + 2)) 174 (Or.inr rfl)
  refine V_aload_n dL_law_497 rfl ?_
  refine V_aload_n dL_law_498 rfl ?_
  refine V_iload_n dL_law_499 rfl ?_
  refine V_iconst (v := 1) dL_law_500 rfl ?_
  refine V_iadd dL_law_501 ?_
  refine V_scr (len := len) (i + 1) dL_law_502 hlen (ix_add hx (by decide) (by omega)) (by omega) ?_
  refine V_aload_n dL_law_503 rfl ?_
  refine V_iload_n dL_law_504 rfl ?_
  refine V_iconst (v := 2) dL_law_505 rfl ?_
  refine V_iadd dL_law_506 ?_
  refine V_scr (len := len) (i + 2) dL_law_507 hlen (ix_add hx (by decide) (by omega)) (by omega) ?_
  refine V_callV (ci := 8) (qX8_pour n (cPour mi (mi 0 (i + 1)) (mi 0 (i + 2))) mr c hR hn (by rw [w4]; exact hBD) ((cPour mi (mi 0 (i + 1)) (mi 0 (i + 2))) 0 (i + 1)) ((cPour mi (mi 0 (i + 1)) (mi 0 (i + 2))) 0 (i + 2))) dL_law_508 mlL_57 mtX8_pour ivX8_pour rfl rfl ⟨by omega, by omega⟩ (by decide) rfl rfl (by decide) (Nat.le_of_ble_eq_true rfl) rfl rfl ?_
  rintro _ _ _ _ ⟨rfl, rfl, rfl, rfl⟩
  refine V_icmp_eq (tgt := 1259) dL_law_511 (by decide) (fun c511 => ?_) (fun c511 => absurd (by rw [w0, w4]) c511)
  refine V_iinc (v := _ + (5)) (L' := [_, _, _, _]) dL_law_1259 (by decide) rfl rfl rfl rfl ?_
  refine V_goto (tgt := 18) dL_law_1262 (by decide) ?_
  have hx5 : (x + 5).toInt = ((i + 5 : Nat) : Int) := ix_add hx (by decide) (by omega)
  obtain ⟨c2, I2⟩ := i_pour I (mi 0 (i + 1)) (mi 0 (i + 2))
  exact (ih _ _ _ c2 _ (by rw [w0]; exact I2) hlen hx5).less (by omega) (by show 4 * m ≤ 4 * (m + 1); omega)
set_option maxRecDepth 4000 in
theorem law_dry {len m i n : Nat} {mi : MI} {mr : MR} {c : CT} {x : Int32} (I : INV n mi mr c) (hlen : mr 0 0 = some len) (hx : x.toInt = (i : Int)) (hi : i + 5 ≤ len) (hl : len ≤ 2560) (ih : NX len m (i + 5)) : V KL_law 33 (m + 1) (4 * (m + 1)) lawQ 516 [some (.ref 0), some (.ref 32), some (.ref 173), some (.int x)] [] n mi mr := by
  have hR := I.1
  have hn := I.2.1
  have hBD := I.2.2.1
  skip
  refine V_aload_n dL_law_516 rfl ?_
  refine V_aload_n dL_law_517 rfl ?_
  refine V_iload_n dL_law_518 rfl ?_
  refine V_iconst (v := 1) dL_law_519 rfl ?_
  refine V_iadd dL_law_520 ?_
  refine V_scr (len := len) (i + 1) dL_law_521 hlen (ix_add hx (by decide) (by omega)) (by omega) ?_
  refine V_callV (ci := 7) (qX7_dry n mi mr c I (mi 0 (i + 1))) dL_law_522 mlL_58 mtX7_dry ivX7_dry rfl rfl ⟨by omega, by omega⟩ (by decide) rfl rfl (by decide) (Nat.le_of_ble_eq_true rfl) rfl rfl ?_
  rintro _ _ _ _ ⟨rfl, rfl, rfl, rfl⟩
  have w0 := w_dry I (mi 0 (i + 1)) 0 (Or.inl rfl)
  have w4 := w_dry I (mi 0 (i + 1)) 174 (Or.inr rfl)
  refine V_aload_n dL_law_525 rfl ?_
  refine V_aload_n dL_law_526 rfl ?_
  refine V_iload_n dL_law_527 rfl ?_
  refine V_iconst (v := 1) dL_law_528 rfl ?_
  refine V_iadd dL_law_529 ?_
  refine V_scr (len := len) (i + 1) dL_law_530 hlen (ix_add hx (by decide) (by omega)) (by omega) ?_
  refine V_callV (ci := 8) (qX8_dry n (cDry mi (mi 0 (i + 1))) mr c hR hn (by rw [w4]; exact hBD) ((cDry mi (mi 0 (i + 1))) 0 (i + 1))) dL_law_531 mlL_61 mtX8_dry ivX8_dry rfl rfl ⟨by omega, by omega⟩ (by decide) rfl rfl (by decide) (Nat.le_of_ble_eq_true rfl) rfl rfl ?_
  rintro _ _ _ _ ⟨rfl, rfl, rfl, rfl⟩
  refine V_icmp_eq (tgt := 1259) dL_law_534 (by decide) (fun c534 => ?_) (fun c534 => absurd (by rw [w0, w4]) c534)
  refine V_iinc (v := _ + (5)) (L' := [_, _, _, _]) dL_law_1259 (by decide) rfl rfl rfl rfl ?_
  refine V_goto (tgt := 18) dL_law_1262 (by decide) ?_
  have hx5 : (x + 5).toInt = ((i + 5 : Nat) : Int) := ix_add hx (by decide) (by omega)
  obtain ⟨c2, I2⟩ := i_dry I (mi 0 (i + 1))
  exact (ih _ _ _ c2 _ (by rw [w0]; exact I2) hlen hx5).less (by omega) (by show 4 * m ≤ 4 * (m + 1); omega)
set_option maxRecDepth 4000 in
theorem law_dawn {len m i n : Nat} {mi : MI} {mr : MR} {c : CT} {x : Int32} (I : INV n mi mr c) (hlen : mr 0 0 = some len) (hx : x.toInt = (i : Int)) (hi : i + 5 ≤ len) (hl : len ≤ 2560) (ih : NX len m (i + 5)) : V KL_law 33 (m + 1) (4 * (m + 1)) lawQ 539 [some (.ref 0), some (.ref 32), some (.ref 173), some (.int x)] [] n mi mr := by
  have hR := I.1
  have hn := I.2.1
  have hBD := I.2.2.1
  skip
  refine V_aload_n dL_law_539 rfl ?_
  refine V_aload_n dL_law_540 rfl ?_
  refine V_iload_n dL_law_541 rfl ?_
  refine V_iconst (v := 1) dL_law_542 rfl ?_
  refine V_iadd dL_law_543 ?_
  refine V_scr (len := len) (i + 1) dL_law_544 hlen (ix_add hx (by decide) (by omega)) (by omega) ?_
  refine V_callV (ci := 7) (qX7_dawn n mi mr c I (mi 0 (i + 1))) dL_law_545 mlL_62 mtX7_dawn ivX7_dawn rfl rfl ⟨by omega, by omega⟩ (by decide) rfl rfl (by decide) (Nat.le_of_ble_eq_true rfl) rfl rfl ?_
  rintro _ _ _ _ ⟨rfl, rfl, rfl, rfl⟩
  have w0 := w_dawn I (mi 0 (i + 1)) 0 (Or.inl rfl)
  have w4 := w_dawn I (mi 0 (i + 1)) 174 (Or.inr rfl)
  refine V_aload_n dL_law_548 rfl ?_
  refine V_aload_n dL_law_549 rfl ?_
  refine V_iload_n dL_law_550 rfl ?_
  refine V_iconst (v := 1) dL_law_551 rfl ?_
  refine V_iadd dL_law_552 ?_
  refine V_scr (len := len) (i + 1) dL_law_553 hlen (ix_add hx (by decide) (by omega)) (by omega) ?_
  refine V_callV (ci := 8) (qX8_dawn n (cDawn mi (cN c) (mi 0 (i + 1))) mr c hR hn (by rw [w4]; exact hBD) ((cDawn mi (cN c) (mi 0 (i + 1))) 0 (i + 1))) dL_law_554 mlL_65 mtX8_dawn ivX8_dawn rfl rfl ⟨by omega, by omega⟩ (by decide) rfl rfl (by decide) (Nat.le_of_ble_eq_true rfl) rfl rfl ?_
  rintro _ _ _ _ ⟨rfl, rfl, rfl, rfl⟩
  refine V_icmp_eq (tgt := 1259) dL_law_557 (by decide) (fun c557 => ?_) (fun c557 => absurd (by rw [w0, w4]) c557)
  refine V_iinc (v := _ + (5)) (L' := [_, _, _, _]) dL_law_1259 (by decide) rfl rfl rfl rfl ?_
  refine V_goto (tgt := 18) dL_law_1262 (by decide) ?_
  have hx5 : (x + 5).toInt = ((i + 5 : Nat) : Int) := ix_add hx (by decide) (by omega)
  obtain ⟨c2, I2⟩ := i_dawn I (mi 0 (i + 1))
  exact (ih _ _ _ c2 _ (by rw [w0]; exact I2) hlen hx5).less (by omega) (by show 4 * m ≤ 4 * (m + 1); omega)
set_option maxRecDepth 4000 in
theorem law_blend {len m i n : Nat} {mi : MI} {mr : MR} {c : CT} {x : Int32} (I : INV n mi mr c) (hlen : mr 0 0 = some len) (hx : x.toInt = (i : Int)) (hi : i + 5 ≤ len) (hl : len ≤ 2560) (ih : NX len m (i + 5)) : V KL_law 33 (m + 1) (4 * (m + 1)) lawQ 562 [some (.ref 0), some (.ref 32), some (.ref 173), some (.int x)] [] n mi mr := by
  have hR := I.1
  have hn := I.2.1
  have hBD := I.2.2.1
  skip
  refine V_aload_n dL_law_562 rfl ?_
  refine V_aload_n dL_law_563 rfl ?_
  refine V_iload_n dL_law_564 rfl ?_
  refine V_iconst (v := 1) dL_law_565 rfl ?_
  refine V_iadd dL_law_566 ?_
  refine V_scr (len := len) (i + 1) dL_law_567 hlen (ix_add hx (by decide) (by omega)) (by omega) ?_
  refine V_aload_n dL_law_568 rfl ?_
  refine V_iload_n dL_law_569 rfl ?_
  refine V_iconst (v := 2) dL_law_570 rfl ?_
  refine V_iadd dL_law_571 ?_
  refine V_scr (len := len) (i + 2) dL_law_572 hlen (ix_add hx (by decide) (by omega)) (by omega) ?_
  refine V_callV (ci := 7) (qX7_blend n mi mr c I (mi 0 (i + 1)) (mi 0 (i + 2))) dL_law_573 mlL_66 mtX7_blend ivX7_blend rfl rfl ⟨by omega, by omega⟩ (by decide) rfl rfl (by decide) (Nat.le_of_ble_eq_true rfl) rfl rfl ?_
  rintro _ _ _ _ ⟨rfl, rfl, rfl, rfl⟩
  have w0 := w_blend I (mi 0 (i + 1)) (mi 0 (i + 2)) 0 (Or.inl rfl)
  have w4 := w_blend I (mi 0 (i + 1)) (mi 0 (i + 2)) 174 (Or.inr rfl)
  refine V_aload_n dL_law_576 rfl ?_
  refine V_aload_n dL_law_577 rfl ?_
  refine V_iload_n dL_law_578 rfl ?_
  refine V_iconst (v := 1) dL_law_579 rfl ?_
  refine V_iadd dL_law_580 ?_
  refine V_scr (len := len) (i + 1) dL_law_581 hlen (ix_add hx (by decide) (by omega)) (by omega) ?_
  refine V_aload_n dL_law_582 rfl ?_
  refine V_iload_n dL_law_583 rfl ?_
  refine V_iconst (v := 2) dL_law_584 rfl ?_
  refine V_iadd dL_law_585 ?_
  refine V_scr (len := len) (i + 2) dL_law_586 hlen (ix_add hx (by decide) (by omega)) (by omega) ?_
  refine V_callV (ci := 8) (qX8_blend n (cBlend mi (mi 0 (i + 1)) (mi 0 (i + 2))) mr c hR hn (by rw [w4]; exact hBD) ((cBlend mi (mi 0 (i + 1)) (mi 0 (i + 2))) 0 (i + 1)) ((cBlend mi (mi 0 (i + 1)) (mi 0 (i + 2))) 0 (i + 2))) dL_law_587 mlL_69 mtX8_blend ivX8_blend rfl rfl ⟨by omega, by omega⟩ (by decide) rfl rfl (by decide) (Nat.le_of_ble_eq_true rfl) rfl rfl ?_
  rintro _ _ _ _ ⟨rfl, rfl, rfl, rfl⟩
  refine V_icmp_eq (tgt := 1259) dL_law_590 (by decide) (fun c590 => ?_) (fun c590 => absurd (by rw [w0, w4]) c590)
  refine V_iinc (v := _ + (5)) (L' := [_, _, _, _]) dL_law_1259 (by decide) rfl rfl rfl rfl ?_
  refine V_goto (tgt := 18) dL_law_1262 (by decide) ?_
  have hx5 : (x + 5).toInt = ((i + 5 : Nat) : Int) := ix_add hx (by decide) (by omega)
  obtain ⟨c2, I2⟩ := i_blend I (mi 0 (i + 1)) (mi 0 (i + 2))
  exact (ih _ _ _ c2 _ (by rw [w0]; exact I2) hlen hx5).less (by omega) (by show 4 * m ≤ 4 * (m + 1); omega)
set_option maxRecDepth 4000 in
theorem law_alive {len m i n : Nat} {mi : MI} {mr : MR} {c : CT} {x : Int32} (I : INV n mi mr c) (hlen : mr 0 0 = some len) (hx : x.toInt = (i : Int)) (hi : i + 5 ≤ len) (hl : len ≤ 2560) (ih : NX len m (i + 5)) : V KL_law 33 (m + 1) (4 * (m + 1)) lawQ 595 [some (.ref 0), some (.ref 32), some (.ref 173), some (.int x)] [] n mi mr := by
  have hR := I.1
  have hn := I.2.1
  have hBD := I.2.2.1
  skip
  refine V_aload_n dL_law_595 rfl ?_
  refine V_aload_n dL_law_596 rfl ?_
  refine V_iload_n dL_law_597 rfl ?_
  refine V_iconst (v := 1) dL_law_598 rfl ?_
  refine V_iadd dL_law_599 ?_
  refine V_scr (len := len) (i + 1) dL_law_600 hlen (ix_add hx (by decide) (by omega)) (by omega) ?_
  refine V_callV (ci := 7) (qX7_alive n mi mr c I (mi 0 (i + 1))) dL_law_601 mlL_70 mtX7_alive ivX7_alive rfl rfl ⟨by omega, by omega⟩ (by decide) rfl rfl (by decide) (Nat.le_of_ble_eq_true rfl) rfl rfl ?_
  rintro _ _ _ _ ⟨rfl, rfl, rfl, rfl⟩
  refine V_aload_n dL_law_604 rfl ?_
  refine V_aload_n dL_law_605 rfl ?_
  refine V_iload_n dL_law_606 rfl ?_
  refine V_iconst (v := 1) dL_law_607 rfl ?_
  refine V_iadd dL_law_608 ?_
  refine V_scr (len := len) (i + 1) dL_law_609 hlen (ix_add hx (by decide) (by omega)) (by omega) ?_
  refine V_callV (ci := 8) (qX8_alive n mi mr c hR hn hBD (mi 0 (i + 1))) dL_law_610 mlL_73 mtX8_alive ivX8_alive rfl rfl ⟨by omega, by omega⟩ (by decide) rfl rfl (by decide) (Nat.le_of_ble_eq_true rfl) rfl rfl ?_
  rintro _ _ m2 _ ⟨rfl, rfl, rfl, ho2⟩
  refine V_icmp_eq (tgt := 1259) dL_law_613 (by decide) (fun c613 => ?_) (fun c613 => absurd rfl c613)
  refine V_iinc (v := _ + (5)) (L' := [_, _, _, _]) dL_law_1259 (by decide) rfl rfl rfl rfl ?_
  refine V_goto (tgt := 18) dL_law_1262 (by decide) ?_
  have hx5 : (x + 5).toInt = ((i + 5 : Nat) : Int) := ix_add hx (by decide) (by omega)
  exact (ih _ _ _ c _ (I.offM ho2) hlen hx5).less (by omega) (by show 4 * m ≤ 4 * (m + 1); omega)
set_option maxRecDepth 4000 in
theorem law_brings {len m i n : Nat} {mi : MI} {mr : MR} {c : CT} {x : Int32} (I : INV n mi mr c) (hlen : mr 0 0 = some len) (hx : x.toInt = (i : Int)) (hi : i + 5 ≤ len) (hl : len ≤ 2560) (ih : NX len m (i + 5)) : V KL_law 33 (m + 1) (4 * (m + 1)) lawQ 618 [some (.ref 0), some (.ref 32), some (.ref 173), some (.int x)] [] n mi mr := by
  have hR := I.1
  have hn := I.2.1
  have hBD := I.2.2.1
  skip
  refine V_aload_n dL_law_618 rfl ?_
  refine V_aload_n dL_law_619 rfl ?_
  refine V_iload_n dL_law_620 rfl ?_
  refine V_iconst (v := 1) dL_law_621 rfl ?_
  refine V_iadd dL_law_622 ?_
  refine V_scr (len := len) (i + 1) dL_law_623 hlen (ix_add hx (by decide) (by omega)) (by omega) ?_
  refine V_callV (ci := 7) (qX7_brings n mi mr c I (mi 0 (i + 1))) dL_law_624 mlL_74 mtX7_brings ivX7_brings rfl rfl ⟨by omega, by omega⟩ (by decide) rfl rfl (by decide) (Nat.le_of_ble_eq_true rfl) rfl rfl ?_
  rintro _ _ _ _ ⟨rfl, rfl, rfl, rfl⟩
  refine V_aload_n dL_law_627 rfl ?_
  refine V_aload_n dL_law_628 rfl ?_
  refine V_iload_n dL_law_629 rfl ?_
  refine V_iconst (v := 1) dL_law_630 rfl ?_
  refine V_iadd dL_law_631 ?_
  refine V_scr (len := len) (i + 1) dL_law_632 hlen (ix_add hx (by decide) (by omega)) (by omega) ?_
  refine V_callV (ci := 8) (qX8_brings n mi mr c hR hn hBD (mi 0 (i + 1))) dL_law_633 mlL_77 mtX8_brings ivX8_brings rfl rfl ⟨by omega, by omega⟩ (by decide) rfl rfl (by decide) (Nat.le_of_ble_eq_true rfl) rfl rfl ?_
  rintro _ _ _ _ ⟨rfl, rfl, rfl, rfl⟩
  refine V_icmp_eq (tgt := 1259) dL_law_636 (by decide) (fun c636 => ?_) (fun c636 => absurd rfl c636)
  refine V_iinc (v := _ + (5)) (L' := [_, _, _, _]) dL_law_1259 (by decide) rfl rfl rfl rfl ?_
  refine V_goto (tgt := 18) dL_law_1262 (by decide) ?_
  have hx5 : (x + 5).toInt = ((i + 5 : Nat) : Int) := ix_add hx (by decide) (by omega)
  exact (ih _ _ _ c _ I hlen hx5).less (by omega) (by show 4 * m ≤ 4 * (m + 1); omega)
set_option maxRecDepth 4000 in
theorem law_nearest {len m i n : Nat} {mi : MI} {mr : MR} {c : CT} {x : Int32} (I : INV n mi mr c) (hlen : mr 0 0 = some len) (hx : x.toInt = (i : Int)) (hi : i + 5 ≤ len) (hl : len ≤ 2560) (ih : NX len m (i + 5)) : V KL_law 33 (m + 1) (4 * (m + 1)) lawQ 641 [some (.ref 0), some (.ref 32), some (.ref 173), some (.int x)] [] n mi mr := by
  have hR := I.1
  have hn := I.2.1
  have hBD := I.2.2.1
  skip
  refine V_aload_n dL_law_641 rfl ?_
  refine V_aload_n dL_law_642 rfl ?_
  refine V_iload_n dL_law_643 rfl ?_
  refine V_iconst (v := 1) dL_law_644 rfl ?_
  refine V_iadd dL_law_645 ?_
  refine V_scr (len := len) (i + 1) dL_law_646 hlen (ix_add hx (by decide) (by omega)) (by omega) ?_
  refine V_aload_n dL_law_647 rfl ?_
  refine V_iload_n dL_law_648 rfl ?_
  refine V_iconst (v := 2) dL_law_649 rfl ?_
  refine V_iadd dL_law_650 ?_
  refine V_scr (len := len) (i + 2) dL_law_651 hlen (ix_add hx (by decide) (by omega)) (by omega) ?_
  refine V_callV (ci := 7) (qX7_nearest n mi mr c I (mi 0 (i + 1)) (mi 0 (i + 2))) dL_law_652 mlL_78 mtX7_nearest ivX7_nearest rfl rfl ⟨by omega, by omega⟩ (by decide) rfl rfl (by decide) (Nat.le_of_ble_eq_true rfl) rfl rfl ?_
  rintro _ _ _ _ ⟨rfl, rfl, rfl, rfl⟩
  refine V_aload_n dL_law_655 rfl ?_
  refine V_aload_n dL_law_656 rfl ?_
  refine V_iload_n dL_law_657 rfl ?_
  refine V_iconst (v := 1) dL_law_658 rfl ?_
  refine V_iadd dL_law_659 ?_
  refine V_scr (len := len) (i + 1) dL_law_660 hlen (ix_add hx (by decide) (by omega)) (by omega) ?_
  refine V_aload_n dL_law_661 rfl ?_
  refine V_iload_n dL_law_662 rfl ?_
  refine V_iconst (v := 2) dL_law_663 rfl ?_
  refine V_iadd dL_law_664 ?_
  refine V_scr (len := len) (i + 2) dL_law_665 hlen (ix_add hx (by decide) (by omega)) (by omega) ?_
  refine V_callV (ci := 8) (qX8_nearest n mi mr c hR hn hBD (mi 0 (i + 1)) (mi 0 (i + 2))) dL_law_666 mlL_81 mtX8_nearest ivX8_nearest rfl rfl ⟨by omega, by omega⟩ (by decide) rfl rfl (by decide) (Nat.le_of_ble_eq_true rfl) rfl rfl ?_
  rintro _ _ _ _ ⟨rfl, rfl, rfl, rfl⟩
  refine V_icmp_eq (tgt := 1259) dL_law_669 (by decide) (fun c669 => ?_) (fun c669 => absurd (near_eq hBD) c669)
  refine V_iinc (v := _ + (5)) (L' := [_, _, _, _]) dL_law_1259 (by decide) rfl rfl rfl rfl ?_
  refine V_goto (tgt := 18) dL_law_1262 (by decide) ?_
  have hx5 : (x + 5).toInt = ((i + 5 : Nat) : Int) := ix_add hx (by decide) (by omega)
  exact (ih _ _ _ c _ I hlen hx5).less (by omega) (by show 4 * m ≤ 4 * (m + 1); omega)
set_option maxRecDepth 4000 in
theorem law_two {len m i n : Nat} {mi : MI} {mr : MR} {c : CT} {x : Int32} (I : INV n mi mr c) (hlen : mr 0 0 = some len) (hx : x.toInt = (i : Int)) (hi : i + 5 ≤ len) (hl : len ≤ 2560) (ih : NX len m (i + 5)) : V KL_law 33 (m + 1) (4 * (m + 1)) lawQ 674 [some (.ref 0), some (.ref 32), some (.ref 173), some (.int x)] [] n mi mr := by
  have hR := I.1
  have hn := I.2.1
  have hBD := I.2.2.1
  skip
  refine V_aload_n dL_law_674 rfl ?_
  refine V_callV (ci := 7) (qX7_two n mi mr c I) dL_law_675 mlL_82 mtX7_two ivX7_two rfl rfl ⟨by omega, by omega⟩ (by decide) rfl rfl (by decide) (Nat.le_of_ble_eq_true rfl) rfl rfl ?_
  rintro _ _ _ _ ⟨rfl, rfl, rfl, rfl⟩
  refine V_aload_n dL_law_678 rfl ?_
  refine V_callV (ci := 8) (qX8_two n mi mr c hR hn hBD) dL_law_679 mlL_85 mtX8_two ivX8_two rfl rfl ⟨by omega, by omega⟩ (by decide) rfl rfl (by decide) (Nat.le_of_ble_eq_true rfl) rfl rfl ?_
  rintro _ _ _ _ ⟨rfl, rfl, rfl, rfl⟩
  refine V_icmp_eq (tgt := 1259) dL_law_682 (by decide) (fun c682 => ?_) (fun c682 => absurd (two_eq hBD) c682)
  refine V_iinc (v := _ + (5)) (L' := [_, _, _, _]) dL_law_1259 (by decide) rfl rfl rfl rfl ?_
  refine V_goto (tgt := 18) dL_law_1262 (by decide) ?_
  have hx5 : (x + 5).toInt = ((i + 5 : Nat) : Int) := ix_add hx (by decide) (by omega)
  exact (ih _ _ _ c _ I hlen hx5).less (by omega) (by show 4 * m ≤ 4 * (m + 1); omega)
set_option maxRecDepth 4000 in
theorem law_meet {len m i n : Nat} {mi : MI} {mr : MR} {c : CT} {x : Int32} (I : INV n mi mr c) (hlen : mr 0 0 = some len) (hx : x.toInt = (i : Int)) (hi : i + 5 ≤ len) (hl : len ≤ 2560) (ih : NX len m (i + 5)) : V KL_law 33 (m + 1) (4 * (m + 1)) lawQ 687 [some (.ref 0), some (.ref 32), some (.ref 173), some (.int x)] [] n mi mr := by
  have hR := I.1
  have hn := I.2.1
  have hBD := I.2.2.1
  skip
  refine V_aload_n dL_law_687 rfl ?_
  refine V_aload_n dL_law_688 rfl ?_
  refine V_iload_n dL_law_689 rfl ?_
  refine V_iconst (v := 1) dL_law_690 rfl ?_
  refine V_iadd dL_law_691 ?_
  refine V_scr (len := len) (i + 1) dL_law_692 hlen (ix_add hx (by decide) (by omega)) (by omega) ?_
  refine V_aload_n dL_law_693 rfl ?_
  refine V_iload_n dL_law_694 rfl ?_
  refine V_iconst (v := 2) dL_law_695 rfl ?_
  refine V_iadd dL_law_696 ?_
  refine V_scr (len := len) (i + 2) dL_law_697 hlen (ix_add hx (by decide) (by omega)) (by omega) ?_
  refine V_aload_n dL_law_698 rfl ?_
  refine V_iload_n dL_law_699 rfl ?_
  refine V_iconst (v := 3) dL_law_700 rfl ?_
  refine V_iadd dL_law_701 ?_
  refine V_scr (len := len) (i + 3) dL_law_702 hlen (ix_add hx (by decide) (by omega)) (by omega) ?_
  refine V_callV (ci := 7) (qX7_meet n mi mr c I (mi 0 (i + 1)) (mi 0 (i + 2)) (mi 0 (i + 3))) dL_law_703 mlL_86 mtX7_meet ivX7_meet rfl rfl ⟨by omega, by omega⟩ (by decide) rfl rfl (by decide) (Nat.le_of_ble_eq_true rfl) rfl rfl ?_
  rintro _ _ _ _ ⟨rfl, rfl, rfl, rfl⟩
  refine V_aload_n dL_law_706 rfl ?_
  refine V_aload_n dL_law_707 rfl ?_
  refine V_iload_n dL_law_708 rfl ?_
  refine V_iconst (v := 1) dL_law_709 rfl ?_
  refine V_iadd dL_law_710 ?_
  refine V_scr (len := len) (i + 1) dL_law_711 hlen (ix_add hx (by decide) (by omega)) (by omega) ?_
  refine V_aload_n dL_law_712 rfl ?_
  refine V_iload_n dL_law_713 rfl ?_
  refine V_iconst (v := 2) dL_law_714 rfl ?_
  refine V_iadd dL_law_715 ?_
  refine V_scr (len := len) (i + 2) dL_law_716 hlen (ix_add hx (by decide) (by omega)) (by omega) ?_
  refine V_aload_n dL_law_717 rfl ?_
  refine V_iload_n dL_law_718 rfl ?_
  refine V_iconst (v := 3) dL_law_719 rfl ?_
  refine V_iadd dL_law_720 ?_
  refine V_scr (len := len) (i + 3) dL_law_721 hlen (ix_add hx (by decide) (by omega)) (by omega) ?_
  refine V_callV (ci := 8) (qX8_meet n mi mr c hR hn hBD (mi 0 (i + 1)) (mi 0 (i + 2)) (mi 0 (i + 3))) dL_law_722 mlL_89 mtX8_meet ivX8_meet rfl rfl ⟨by omega, by omega⟩ (by decide) rfl rfl (by decide) (Nat.le_of_ble_eq_true rfl) rfl rfl ?_
  rintro _ _ _ _ ⟨rfl, rfl, rfl, rfl⟩
  refine V_icmp_eq (tgt := 1259) dL_law_725 (by decide) (fun c725 => ?_) (fun c725 => absurd rfl c725)
  refine V_iinc (v := _ + (5)) (L' := [_, _, _, _]) dL_law_1259 (by decide) rfl rfl rfl rfl ?_
  refine V_goto (tgt := 18) dL_law_1262 (by decide) ?_
  have hx5 : (x + 5).toInt = ((i + 5 : Nat) : Int) := ix_add hx (by decide) (by omega)
  exact (ih _ _ _ c _ I hlen hx5).less (by omega) (by show 4 * m ≤ 4 * (m + 1); omega)
set_option maxRecDepth 4000 in
theorem law_fewest {len m i n : Nat} {mi : MI} {mr : MR} {c : CT} {x : Int32} (I : INV n mi mr c) (hlen : mr 0 0 = some len) (hx : x.toInt = (i : Int)) (hi : i + 5 ≤ len) (hl : len ≤ 2560) (ih : NX len m (i + 5)) : V KL_law 33 (m + 1) (4 * (m + 1)) lawQ 730 [some (.ref 0), some (.ref 32), some (.ref 173), some (.int x)] [] n mi mr := by
  have hR := I.1
  have hn := I.2.1
  have hBD := I.2.2.1
  obtain ⟨nc, e, b, hO, hMV⟩ := I.mv
  refine V_aload_n dL_law_730 rfl ?_
  refine V_aload_n dL_law_731 rfl ?_
  refine V_iload_n dL_law_732 rfl ?_
  refine V_iconst (v := 1) dL_law_733 rfl ?_
  refine V_iadd dL_law_734 ?_
  refine V_scr (len := len) (i + 1) dL_law_735 hlen (ix_add hx (by decide) (by omega)) (by omega) ?_
  refine V_aload_n dL_law_736 rfl ?_
  refine V_iload_n dL_law_737 rfl ?_
  refine V_iconst (v := 2) dL_law_738 rfl ?_
  refine V_iadd dL_law_739 ?_
  refine V_scr (len := len) (i + 2) dL_law_740 hlen (ix_add hx (by decide) (by omega)) (by omega) ?_
  refine V_callV (ci := 7) (qX7_fewest n mi mr c I nc e b hO hMV (mi 0 (i + 1)) (mi 0 (i + 2))) dL_law_741 mlL_90 mtX7_fewest ivX7_fewest rfl rfl ⟨by omega, by omega⟩ (by decide) rfl rfl (by decide) (Nat.le_of_ble_eq_true rfl) rfl rfl ?_
  rintro _ _ m1 _ ⟨rfl, rfl, rfl, ho1⟩
  have ho1 : Off scrC mi m1 := ho1
  have w0 : m1 0 = mi 0 := ho1.fn (fun k => by unfold scrC; omega)
  have w4 : m1 174 = mi 174 := ho1.fn (fun k => by unfold scrC; omega)
  refine V_aload_n dL_law_744 rfl ?_
  refine V_aload_n dL_law_745 rfl ?_
  refine V_iload_n dL_law_746 rfl ?_
  refine V_iconst (v := 1) dL_law_747 rfl ?_
  refine V_iadd dL_law_748 ?_
  refine V_scr (len := len) (i + 1) dL_law_749 hlen (ix_add hx (by decide) (by omega)) (by omega) ?_
  refine V_aload_n dL_law_750 rfl ?_
  refine V_iload_n dL_law_751 rfl ?_
  refine V_iconst (v := 2) dL_law_752 rfl ?_
  refine V_iadd dL_law_753 ?_
  refine V_scr (len := len) (i + 2) dL_law_754 hlen (ix_add hx (by decide) (by omega)) (by omega) ?_
  refine V_callV (ci := 8) (qX8_fewest n m1 mr c hR hn (by rw [w4]; exact hBD) nc e (mi (hvOf (mi 174) + 1)) (mi (hvOf (mi 174) + 2)) b (by rw [w4]; exact hMV) (m1 0 (i + 1)) (m1 0 (i + 2))) dL_law_755 mlL_93 mtX8_fewest ivX8_fewest rfl rfl ⟨by omega, by omega⟩ (by decide) rfl rfl (by decide) (Nat.le_of_ble_eq_true rfl) rfl rfl ?_
  rintro _ _ m2 _ ⟨rfl, rfl, rfl, ho2⟩
  refine V_icmp_eq (tgt := 1259) dL_law_758 (by decide) (fun c758 => ?_) (fun c758 => absurd (by rw [w0, w4]) c758)
  refine V_iinc (v := _ + (5)) (L' := [_, _, _, _]) dL_law_1259 (by decide) rfl rfl rfl rfl ?_
  refine V_goto (tgt := 18) dL_law_1262 (by decide) ?_
  have hx5 : (x + 5).toInt = ((i + 5 : Nat) : Int) := ix_add hx (by decide) (by omega)
  exact (ih _ _ _ c _ ((I.offC ho1).offM ho2) hlen hx5).less (by omega) (by show 4 * m ≤ 4 * (m + 1); omega)
set_option maxRecDepth 4000 in
theorem law_close {len m i n : Nat} {mi : MI} {mr : MR} {c : CT} {x : Int32} (I : INV n mi mr c) (hlen : mr 0 0 = some len) (hx : x.toInt = (i : Int)) (hi : i + 5 ≤ len) (hl : len ≤ 2560) (ih : NX len m (i + 5)) : V KL_law 33 (m + 1) (4 * (m + 1)) lawQ 763 [some (.ref 0), some (.ref 32), some (.ref 173), some (.int x)] [] n mi mr := by
  have hR := I.1
  have hn := I.2.1
  have hBD := I.2.2.1
  obtain ⟨nc, e, b, hO, hMV⟩ := I.mv
  refine V_aload_n dL_law_763 rfl ?_
  refine V_aload_n dL_law_764 rfl ?_
  refine V_iload_n dL_law_765 rfl ?_
  refine V_iconst (v := 1) dL_law_766 rfl ?_
  refine V_iadd dL_law_767 ?_
  refine V_scr (len := len) (i + 1) dL_law_768 hlen (ix_add hx (by decide) (by omega)) (by omega) ?_
  refine V_callV (ci := 7) (qX7_close n mi mr c I nc e b hO hMV (mi 0 (i + 1))) dL_law_769 mlL_94 mtX7_close ivX7_close rfl rfl ⟨by omega, by omega⟩ (by decide) rfl rfl (by decide) (Nat.le_of_ble_eq_true rfl) rfl rfl ?_
  rintro _ _ m1 _ ⟨rfl, rfl, rfl, ho1⟩
  have ho1 : Off scrC mi m1 := ho1
  have w0 : m1 0 = mi 0 := ho1.fn (fun k => by unfold scrC; omega)
  have w4 : m1 174 = mi 174 := ho1.fn (fun k => by unfold scrC; omega)
  refine V_aload_n dL_law_772 rfl ?_
  refine V_aload_n dL_law_773 rfl ?_
  refine V_iload_n dL_law_774 rfl ?_
  refine V_iconst (v := 1) dL_law_775 rfl ?_
  refine V_iadd dL_law_776 ?_
  refine V_scr (len := len) (i + 1) dL_law_777 hlen (ix_add hx (by decide) (by omega)) (by omega) ?_
  refine V_callV (ci := 8) (qX8_close n m1 mr c hR hn (by rw [w4]; exact hBD) nc e (mi (hvOf (mi 174) + 1)) (mi (hvOf (mi 174) + 2)) b (by rw [w4]; exact hMV) (m1 0 (i + 1))) dL_law_778 mlL_97 mtX8_close ivX8_close rfl rfl ⟨by omega, by omega⟩ (by decide) rfl rfl (by decide) (Nat.le_of_ble_eq_true rfl) rfl rfl ?_
  rintro _ _ m2 _ ⟨rfl, rfl, rfl, ho2⟩
  refine V_icmp_eq (tgt := 1259) dL_law_781 (by decide) (fun c781 => ?_) (fun c781 => absurd (by rw [w0, w4]) c781)
  refine V_iinc (v := _ + (5)) (L' := [_, _, _, _]) dL_law_1259 (by decide) rfl rfl rfl rfl ?_
  refine V_goto (tgt := 18) dL_law_1262 (by decide) ?_
  have hx5 : (x + 5).toInt = ((i + 5 : Nat) : Int) := ix_add hx (by decide) (by omega)
  exact (ih _ _ _ c _ ((I.offC ho1).offM ho2) hlen hx5).less (by omega) (by show 4 * m ≤ 4 * (m + 1); omega)
set_option maxRecDepth 4000 in
theorem law_boldest {len m i n : Nat} {mi : MI} {mr : MR} {c : CT} {x : Int32} (I : INV n mi mr c) (hlen : mr 0 0 = some len) (hx : x.toInt = (i : Int)) (hi : i + 5 ≤ len) (hl : len ≤ 2560) (ih : NX len m (i + 5)) : V KL_law 33 (m + 1) (4 * (m + 1)) lawQ 786 [some (.ref 0), some (.ref 32), some (.ref 173), some (.int x)] [] n mi mr := by
  have hR := I.1
  have hn := I.2.1
  have hBD := I.2.2.1
  obtain ⟨nc, e, b, hO, hMV⟩ := I.mv
  refine V_aload_n dL_law_786 rfl ?_
  refine V_aload_n dL_law_787 rfl ?_
  refine V_iload_n dL_law_788 rfl ?_
  refine V_iconst (v := 1) dL_law_789 rfl ?_
  refine V_iadd dL_law_790 ?_
  refine V_scr (len := len) (i + 1) dL_law_791 hlen (ix_add hx (by decide) (by omega)) (by omega) ?_
  refine V_callV (ci := 7) (qX7_boldest n mi mr c I nc e b hO hMV (mi 0 (i + 1))) dL_law_792 mlL_98 mtX7_boldest ivX7_boldest rfl rfl ⟨by omega, by omega⟩ (by decide) rfl rfl (by decide) (Nat.le_of_ble_eq_true rfl) rfl rfl ?_
  rintro _ _ m1 _ ⟨rfl, rfl, rfl, ho1⟩
  have ho1 : Off scrC mi m1 := ho1
  have w0 : m1 0 = mi 0 := ho1.fn (fun k => by unfold scrC; omega)
  have w4 : m1 174 = mi 174 := ho1.fn (fun k => by unfold scrC; omega)
  refine V_aload_n dL_law_795 rfl ?_
  refine V_aload_n dL_law_796 rfl ?_
  refine V_iload_n dL_law_797 rfl ?_
  refine V_iconst (v := 1) dL_law_798 rfl ?_
  refine V_iadd dL_law_799 ?_
  refine V_scr (len := len) (i + 1) dL_law_800 hlen (ix_add hx (by decide) (by omega)) (by omega) ?_
  refine V_callV (ci := 8) (qX8_boldest n m1 mr c hR hn (by rw [w4]; exact hBD) nc e (mi (hvOf (mi 174) + 1)) (mi (hvOf (mi 174) + 2)) b (by rw [w4]; exact hMV) (m1 0 (i + 1))) dL_law_801 mlL_101 mtX8_boldest ivX8_boldest rfl rfl ⟨by omega, by omega⟩ (by decide) rfl rfl (by decide) (Nat.le_of_ble_eq_true rfl) rfl rfl ?_
  rintro _ _ m2 _ ⟨rfl, rfl, rfl, ho2⟩
  refine V_icmp_eq (tgt := 1259) dL_law_804 (by decide) (fun c804 => ?_) (fun c804 => absurd (by rw [w0, w4]) c804)
  refine V_iinc (v := _ + (5)) (L' := [_, _, _, _]) dL_law_1259 (by decide) rfl rfl rfl rfl ?_
  refine V_goto (tgt := 18) dL_law_1262 (by decide) ?_
  have hx5 : (x + 5).toInt = ((i + 5 : Nat) : Int) := ix_add hx (by decide) (by omega)
  exact (ih _ _ _ c _ ((I.offC ho1).offM ho2) hlen hx5).less (by omega) (by show 4 * m ≤ 4 * (m + 1); omega)
set_option maxRecDepth 4000 in
theorem law_see {len m i n : Nat} {mi : MI} {mr : MR} {c : CT} {x : Int32} (I : INV n mi mr c) (hlen : mr 0 0 = some len) (hx : x.toInt = (i : Int)) (hi : i + 5 ≤ len) (hl : len ≤ 2560) (ih : NX len m (i + 5)) : V KL_law 33 (m + 1) (4 * (m + 1)) lawQ 809 [some (.ref 0), some (.ref 32), some (.ref 173), some (.int x)] [] n mi mr := by
  have hR := I.1
  have hn := I.2.1
  have hBD := I.2.2.1
  skip
  refine V_aload_n dL_law_809 rfl ?_
  refine V_aload_n dL_law_810 rfl ?_
  refine V_iload_n dL_law_811 rfl ?_
  refine V_iconst (v := 1) dL_law_812 rfl ?_
  refine V_iadd dL_law_813 ?_
  refine V_scr (len := len) (i + 1) dL_law_814 hlen (ix_add hx (by decide) (by omega)) (by omega) ?_
  refine V_aload_n dL_law_815 rfl ?_
  refine V_iload_n dL_law_816 rfl ?_
  refine V_iconst (v := 2) dL_law_817 rfl ?_
  refine V_iadd dL_law_818 ?_
  refine V_scr (len := len) (i + 2) dL_law_819 hlen (ix_add hx (by decide) (by omega)) (by omega) ?_
  refine V_callV (ci := 7) (qX7_see n mi mr c I (mi 0 (i + 1)) (mi 0 (i + 2))) dL_law_820 mlL_102 mtX7_see ivX7_see rfl rfl ⟨by omega, by omega⟩ (by decide) rfl rfl (by decide) (Nat.le_of_ble_eq_true rfl) rfl rfl ?_
  rintro _ _ _ _ ⟨rfl, rfl, rfl, rfl⟩
  have w0 := w_see I (mi 0 (i + 1)) (mi 0 (i + 2)) 0 (Or.inl rfl)
  have w4 := w_see I (mi 0 (i + 1)) (mi 0 (i + 2)) 174 (Or.inr rfl)
  refine V_aload_n dL_law_823 rfl ?_
  refine V_aload_n dL_law_824 rfl ?_
  refine V_iload_n dL_law_825 rfl ?_
  refine V_iconst (v := 1) dL_law_826 rfl ?_
  refine V_iadd dL_law_827 ?_
  refine V_scr (len := len) (i + 1) dL_law_828 hlen (ix_add hx (by decide) (by omega)) (by omega) ?_
  refine V_aload_n dL_law_829 rfl ?_
  refine V_iload_n dL_law_830 rfl ?_
  refine V_iconst (v := 2) dL_law_831 rfl ?_
  refine V_iadd dL_law_832 ?_
  refine V_scr (len := len) (i + 2) dL_law_833 hlen (ix_add hx (by decide) (by omega)) (by omega) ?_
  refine V_callV (ci := 8) (qX8_see n (cTell mi 45 14 5 (mi 0 (i + 1)) (mi 0 (i + 2))) mr c hR hn (by rw [w4]; exact hBD) ((cTell mi 45 14 5 (mi 0 (i + 1)) (mi 0 (i + 2))) 0 (i + 1)) ((cTell mi 45 14 5 (mi 0 (i + 1)) (mi 0 (i + 2))) 0 (i + 2))) dL_law_834 mlL_105 mtX8_see ivX8_see rfl rfl ⟨by omega, by omega⟩ (by decide) rfl rfl (by decide) (Nat.le_of_ble_eq_true rfl) rfl rfl ?_
  rintro _ _ _ _ ⟨rfl, rfl, rfl, rfl⟩
  refine V_icmp_eq (tgt := 1259) dL_law_837 (by decide) (fun c837 => ?_) (fun c837 => absurd (by rw [w0, w4]) c837)
  refine V_iinc (v := _ + (5)) (L' := [_, _, _, _]) dL_law_1259 (by decide) rfl rfl rfl rfl ?_
  refine V_goto (tgt := 18) dL_law_1262 (by decide) ?_
  have hx5 : (x + 5).toInt = ((i + 5 : Nat) : Int) := ix_add hx (by decide) (by omega)
  obtain ⟨c2, I2⟩ := i_see I (mi 0 (i + 1)) (mi 0 (i + 2))
  exact (ih _ _ _ c2 _ (by rw [w0]; exact I2) hlen hx5).less (by omega) (by show 4 * m ≤ 4 * (m + 1); omega)
set_option maxRecDepth 4000 in
theorem law_drank {len m i n : Nat} {mi : MI} {mr : MR} {c : CT} {x : Int32} (I : INV n mi mr c) (hlen : mr 0 0 = some len) (hx : x.toInt = (i : Int)) (hi : i + 5 ≤ len) (hl : len ≤ 2560) (ih : NX len m (i + 5)) : V KL_law 33 (m + 1) (4 * (m + 1)) lawQ 842 [some (.ref 0), some (.ref 32), some (.ref 173), some (.int x)] [] n mi mr := by
  have hR := I.1
  have hn := I.2.1
  have hBD := I.2.2.1
  skip
  refine V_aload_n dL_law_842 rfl ?_
  refine V_aload_n dL_law_843 rfl ?_
  refine V_iload_n dL_law_844 rfl ?_
  refine V_iconst (v := 1) dL_law_845 rfl ?_
  refine V_iadd dL_law_846 ?_
  refine V_scr (len := len) (i + 1) dL_law_847 hlen (ix_add hx (by decide) (by omega)) (by omega) ?_
  refine V_callV (ci := 7) (qX7_drank n mi mr c I (mi 0 (i + 1))) dL_law_848 mlL_106 mtX7_drank ivX7_drank rfl rfl ⟨by omega, by omega⟩ (by decide) rfl rfl (by decide) (Nat.le_of_ble_eq_true rfl) rfl rfl ?_
  rintro _ _ _ _ ⟨rfl, rfl, rfl, rfl⟩
  refine V_aload_n dL_law_851 rfl ?_
  refine V_aload_n dL_law_852 rfl ?_
  refine V_iload_n dL_law_853 rfl ?_
  refine V_iconst (v := 1) dL_law_854 rfl ?_
  refine V_iadd dL_law_855 ?_
  refine V_scr (len := len) (i + 1) dL_law_856 hlen (ix_add hx (by decide) (by omega)) (by omega) ?_
  refine V_callV (ci := 8) (qX8_drank n mi mr c hR hn hBD (mi 0 (i + 1))) dL_law_857 mlL_109 mtX8_drank ivX8_drank rfl rfl ⟨by omega, by omega⟩ (by decide) rfl rfl (by decide) (Nat.le_of_ble_eq_true rfl) rfl rfl ?_
  rintro _ _ _ _ ⟨rfl, rfl, rfl, rfl⟩
  refine V_icmp_eq (tgt := 1259) dL_law_860 (by decide) (fun c860 => ?_) (fun c860 => absurd rfl c860)
  refine V_iinc (v := _ + (5)) (L' := [_, _, _, _]) dL_law_1259 (by decide) rfl rfl rfl rfl ?_
  refine V_goto (tgt := 18) dL_law_1262 (by decide) ?_
  have hx5 : (x + 5).toInt = ((i + 5 : Nat) : Int) := ix_add hx (by decide) (by omega)
  exact (ih _ _ _ c _ I hlen hx5).less (by omega) (by show 4 * m ≤ 4 * (m + 1); omega)
set_option maxRecDepth 4000 in
theorem law_birth {len m i n : Nat} {mi : MI} {mr : MR} {c : CT} {x : Int32} (I : INV n mi mr c) (hlen : mr 0 0 = some len) (hx : x.toInt = (i : Int)) (hi : i + 5 ≤ len) (hl : len ≤ 2560) (ih : NX len m (i + 5)) : V KL_law 33 (m + 1) (4 * (m + 1)) lawQ 865 [some (.ref 0), some (.ref 32), some (.ref 173), some (.int x)] [] n mi mr := by
  have hR := I.1
  have hn := I.2.1
  have hBD := I.2.2.1
  skip
  refine V_aload_n dL_law_865 rfl ?_
  refine V_aload_n dL_law_866 rfl ?_
  refine V_iload_n dL_law_867 rfl ?_
  refine V_iconst (v := 1) dL_law_868 rfl ?_
  refine V_iadd dL_law_869 ?_
  refine V_scr (len := len) (i + 1) dL_law_870 hlen (ix_add hx (by decide) (by omega)) (by omega) ?_
  refine V_aload_n dL_law_871 rfl ?_
  refine V_iload_n dL_law_872 rfl ?_
  refine V_iconst (v := 2) dL_law_873 rfl ?_
  refine V_iadd dL_law_874 ?_
  refine V_scr (len := len) (i + 2) dL_law_875 hlen (ix_add hx (by decide) (by omega)) (by omega) ?_
  refine V_callV (ci := 7) (qX7_birth n mi mr c I (mi 0 (i + 1)) (mi 0 (i + 2))) dL_law_876 mlL_110 mtX7_birth ivX7_birth rfl rfl ⟨by omega, by omega⟩ (by decide) rfl rfl (by decide) (Nat.le_of_ble_eq_true rfl) rfl rfl ?_
  rintro _ _ _ _ ⟨rfl, rfl, rfl, rfl⟩
  refine V_aload_n dL_law_879 rfl ?_
  refine V_aload_n dL_law_880 rfl ?_
  refine V_iload_n dL_law_881 rfl ?_
  refine V_iconst (v := 1) dL_law_882 rfl ?_
  refine V_iadd dL_law_883 ?_
  refine V_scr (len := len) (i + 1) dL_law_884 hlen (ix_add hx (by decide) (by omega)) (by omega) ?_
  refine V_aload_n dL_law_885 rfl ?_
  refine V_iload_n dL_law_886 rfl ?_
  refine V_iconst (v := 2) dL_law_887 rfl ?_
  refine V_iadd dL_law_888 ?_
  refine V_scr (len := len) (i + 2) dL_law_889 hlen (ix_add hx (by decide) (by omega)) (by omega) ?_
  refine V_callV (ci := 8) (qX8_birth n mi mr c hR hn hBD (mi 0 (i + 1)) (mi 0 (i + 2))) dL_law_890 mlL_113 mtX8_birth ivX8_birth rfl rfl ⟨by omega, by omega⟩ (by decide) rfl rfl (by decide) (Nat.le_of_ble_eq_true rfl) rfl rfl ?_
  rintro _ _ m2 _ ⟨rfl, rfl, rfl, ho2⟩
  refine V_icmp_eq (tgt := 1259) dL_law_893 (by decide) (fun c893 => ?_) (fun c893 => absurd rfl c893)
  refine V_iinc (v := _ + (5)) (L' := [_, _, _, _]) dL_law_1259 (by decide) rfl rfl rfl rfl ?_
  refine V_goto (tgt := 18) dL_law_1262 (by decide) ?_
  have hx5 : (x + 5).toInt = ((i + 5 : Nat) : Int) := ix_add hx (by decide) (by omega)
  exact (ih _ _ _ c _ (I.offM ho2) hlen hx5).less (by omega) (by show 4 * m ≤ 4 * (m + 1); omega)
set_option maxRecDepth 4000 in
theorem law_firm {len m i n : Nat} {mi : MI} {mr : MR} {c : CT} {x : Int32} (I : INV n mi mr c) (hlen : mr 0 0 = some len) (hx : x.toInt = (i : Int)) (hi : i + 5 ≤ len) (hl : len ≤ 2560) (ih : NX len m (i + 5)) : V KL_law 33 (m + 1) (4 * (m + 1)) lawQ 898 [some (.ref 0), some (.ref 32), some (.ref 173), some (.int x)] [] n mi mr := by
  have hR := I.1
  have hn := I.2.1
  have hBD := I.2.2.1
  skip
  refine V_aload_n dL_law_898 rfl ?_
  refine V_aload_n dL_law_899 rfl ?_
  refine V_iload_n dL_law_900 rfl ?_
  refine V_iconst (v := 1) dL_law_901 rfl ?_
  refine V_iadd dL_law_902 ?_
  refine V_scr (len := len) (i + 1) dL_law_903 hlen (ix_add hx (by decide) (by omega)) (by omega) ?_
  refine V_aload_n dL_law_904 rfl ?_
  refine V_iload_n dL_law_905 rfl ?_
  refine V_iconst (v := 2) dL_law_906 rfl ?_
  refine V_iadd dL_law_907 ?_
  refine V_scr (len := len) (i + 2) dL_law_908 hlen (ix_add hx (by decide) (by omega)) (by omega) ?_
  refine V_callV (ci := 7) (qX7_firm n mi mr c I (mi 0 (i + 1)) (mi 0 (i + 2))) dL_law_909 mlL_114 mtX7_firm ivX7_firm rfl rfl ⟨by omega, by omega⟩ (by decide) rfl rfl (by decide) (Nat.le_of_ble_eq_true rfl) rfl rfl ?_
  rintro _ _ _ _ ⟨rfl, rfl, rfl, rfl⟩
  refine V_aload_n dL_law_912 rfl ?_
  refine V_aload_n dL_law_913 rfl ?_
  refine V_iload_n dL_law_914 rfl ?_
  refine V_iconst (v := 1) dL_law_915 rfl ?_
  refine V_iadd dL_law_916 ?_
  refine V_scr (len := len) (i + 1) dL_law_917 hlen (ix_add hx (by decide) (by omega)) (by omega) ?_
  refine V_aload_n dL_law_918 rfl ?_
  refine V_iload_n dL_law_919 rfl ?_
  refine V_iconst (v := 2) dL_law_920 rfl ?_
  refine V_iadd dL_law_921 ?_
  refine V_scr (len := len) (i + 2) dL_law_922 hlen (ix_add hx (by decide) (by omega)) (by omega) ?_
  refine V_callV (ci := 8) (qX8_firm n mi mr c hR hn hBD (mi 0 (i + 1)) (mi 0 (i + 2))) dL_law_923 mlL_117 mtX8_firm ivX8_firm rfl rfl ⟨by omega, by omega⟩ (by decide) rfl rfl (by decide) (Nat.le_of_ble_eq_true rfl) rfl rfl ?_
  rintro _ _ m2 _ ⟨rfl, rfl, rfl, ho2⟩
  refine V_icmp_eq (tgt := 1259) dL_law_926 (by decide) (fun c926 => ?_) (fun c926 => absurd rfl c926)
  refine V_iinc (v := _ + (5)) (L' := [_, _, _, _]) dL_law_1259 (by decide) rfl rfl rfl rfl ?_
  refine V_goto (tgt := 18) dL_law_1262 (by decide) ?_
  have hx5 : (x + 5).toInt = ((i + 5 : Nat) : Int) := ix_add hx (by decide) (by omega)
  exact (ih _ _ _ c _ (I.offM ho2) hlen hx5).less (by omega) (by show 4 * m ≤ 4 * (m + 1); omega)
set_option maxRecDepth 4000 in
theorem law_odds {len m i n : Nat} {mi : MI} {mr : MR} {c : CT} {x : Int32} (I : INV n mi mr c) (hlen : mr 0 0 = some len) (hx : x.toInt = (i : Int)) (hi : i + 5 ≤ len) (hl : len ≤ 2560) (ih : NX len m (i + 5)) : V KL_law 33 (m + 1) (4 * (m + 1)) lawQ 931 [some (.ref 0), some (.ref 32), some (.ref 173), some (.int x)] [] n mi mr := by
  have hR := I.1
  have hn := I.2.1
  have hBD := I.2.2.1
  skip
  refine V_aload_n dL_law_931 rfl ?_
  refine V_aload_n dL_law_932 rfl ?_
  refine V_iload_n dL_law_933 rfl ?_
  refine V_iconst (v := 1) dL_law_934 rfl ?_
  refine V_iadd dL_law_935 ?_
  refine V_scr (len := len) (i + 1) dL_law_936 hlen (ix_add hx (by decide) (by omega)) (by omega) ?_
  refine V_aload_n dL_law_937 rfl ?_
  refine V_iload_n dL_law_938 rfl ?_
  refine V_iconst (v := 2) dL_law_939 rfl ?_
  refine V_iadd dL_law_940 ?_
  refine V_scr (len := len) (i + 2) dL_law_941 hlen (ix_add hx (by decide) (by omega)) (by omega) ?_
  refine V_aload_n dL_law_942 rfl ?_
  refine V_iload_n dL_law_943 rfl ?_
  refine V_iconst (v := 3) dL_law_944 rfl ?_
  refine V_iadd dL_law_945 ?_
  refine V_scr (len := len) (i + 3) dL_law_946 hlen (ix_add hx (by decide) (by omega)) (by omega) ?_
  refine V_callV (ci := 7) (qX7_odds n mi mr c I (mi 0 (i + 1)) (mi 0 (i + 2)) (mi 0 (i + 3))) dL_law_947 mlL_118 mtX7_odds ivX7_odds rfl rfl ⟨by omega, by omega⟩ (by decide) rfl rfl (by decide) (Nat.le_of_ble_eq_true rfl) rfl rfl ?_
  rintro _ _ _ _ ⟨rfl, rfl, rfl, rfl⟩
  refine V_aload_n dL_law_950 rfl ?_
  refine V_aload_n dL_law_951 rfl ?_
  refine V_iload_n dL_law_952 rfl ?_
  refine V_iconst (v := 1) dL_law_953 rfl ?_
  refine V_iadd dL_law_954 ?_
  refine V_scr (len := len) (i + 1) dL_law_955 hlen (ix_add hx (by decide) (by omega)) (by omega) ?_
  refine V_aload_n dL_law_956 rfl ?_
  refine V_iload_n dL_law_957 rfl ?_
  refine V_iconst (v := 2) dL_law_958 rfl ?_
  refine V_iadd dL_law_959 ?_
  refine V_scr (len := len) (i + 2) dL_law_960 hlen (ix_add hx (by decide) (by omega)) (by omega) ?_
  refine V_aload_n dL_law_961 rfl ?_
  refine V_iload_n dL_law_962 rfl ?_
  refine V_iconst (v := 3) dL_law_963 rfl ?_
  refine V_iadd dL_law_964 ?_
  refine V_scr (len := len) (i + 3) dL_law_965 hlen (ix_add hx (by decide) (by omega)) (by omega) ?_
  refine V_callV (ci := 8) (qX8_odds n mi mr c hR hn hBD (mi 0 (i + 1)) (mi 0 (i + 2)) (mi 0 (i + 3))) dL_law_966 mlL_122 mtX8_odds ivX8_odds rfl rfl ⟨by omega, by omega⟩ (by decide) rfl rfl (by decide) (Nat.le_of_ble_eq_true rfl) rfl rfl ?_
  rintro _ _ _ _ ⟨rfl, rfl, rfl, rfl⟩
  refine V_lcmp dL_law_969 ?_
  refine V_if_eq (tgt := 1259) dL_law_970 (by decide) (fun c970 => ?_) (fun c970 => absurd (lg_cmp_s _) c970)
  refine V_iinc (v := _ + (5)) (L' := [_, _, _, _]) dL_law_1259 (by decide) rfl rfl rfl rfl ?_
  refine V_goto (tgt := 18) dL_law_1262 (by decide) ?_
  have hx5 : (x + 5).toInt = ((i + 5 : Nat) : Int) := ix_add hx (by decide) (by omega)
  exact (ih _ _ _ c _ I hlen hx5).less (by omega) (by show 4 * m ≤ 4 * (m + 1); omega)
set_option maxRecDepth 4000 in
theorem law_mean {len m i n : Nat} {mi : MI} {mr : MR} {c : CT} {x : Int32} (I : INV n mi mr c) (hlen : mr 0 0 = some len) (hx : x.toInt = (i : Int)) (hi : i + 5 ≤ len) (hl : len ≤ 2560) (ih : NX len m (i + 5)) : V KL_law 33 (m + 1) (4 * (m + 1)) lawQ 975 [some (.ref 0), some (.ref 32), some (.ref 173), some (.int x)] [] n mi mr := by
  have hR := I.1
  have hn := I.2.1
  have hBD := I.2.2.1
  skip
  refine V_aload_n dL_law_975 rfl ?_
  refine V_aload_n dL_law_976 rfl ?_
  refine V_iload_n dL_law_977 rfl ?_
  refine V_iconst (v := 1) dL_law_978 rfl ?_
  refine V_iadd dL_law_979 ?_
  refine V_scr (len := len) (i + 1) dL_law_980 hlen (ix_add hx (by decide) (by omega)) (by omega) ?_
  refine V_callV (ci := 7) (qX7_mean n mi mr c I (mi 0 (i + 1))) dL_law_981 mlL_123 mtX7_mean ivX7_mean rfl rfl ⟨by omega, by omega⟩ (by decide) rfl rfl (by decide) (Nat.le_of_ble_eq_true rfl) rfl rfl ?_
  rintro _ _ _ _ ⟨rfl, rfl, rfl, rfl⟩
  refine V_aload_n dL_law_984 rfl ?_
  refine V_aload_n dL_law_985 rfl ?_
  refine V_iload_n dL_law_986 rfl ?_
  refine V_iconst (v := 1) dL_law_987 rfl ?_
  refine V_iadd dL_law_988 ?_
  refine V_scr (len := len) (i + 1) dL_law_989 hlen (ix_add hx (by decide) (by omega)) (by omega) ?_
  refine V_callV (ci := 8) (qX8_mean n mi mr c hR hn hBD (mi 0 (i + 1))) dL_law_990 mlL_127 mtX8_mean ivX8_mean rfl rfl ⟨by omega, by omega⟩ (by decide) rfl rfl (by decide) (Nat.le_of_ble_eq_true rfl) rfl rfl ?_
  rintro _ _ _ _ ⟨rfl, rfl, rfl, rfl⟩
  refine V_lcmp dL_law_993 ?_
  refine V_if_eq (tgt := 1259) dL_law_994 (by decide) (fun c994 => ?_) (fun c994 => absurd (lg_cmp_s _) c994)
  refine V_iinc (v := _ + (5)) (L' := [_, _, _, _]) dL_law_1259 (by decide) rfl rfl rfl rfl ?_
  refine V_goto (tgt := 18) dL_law_1262 (by decide) ?_
  have hx5 : (x + 5).toInt = ((i + 5 : Nat) : Int) := ix_add hx (by decide) (by omega)
  exact (ih _ _ _ c _ I hlen hx5).less (by omega) (by show 4 * m ≤ 4 * (m + 1); omega)
set_option maxRecDepth 4000 in
theorem law_night {len m i n : Nat} {mi : MI} {mr : MR} {c : CT} {x : Int32} (I : INV n mi mr c) (hlen : mr 0 0 = some len) (hx : x.toInt = (i : Int)) (hi : i + 5 ≤ len) (hl : len ≤ 2560) (ih : NX len m (i + 5)) : V KL_law 33 (m + 1) (4 * (m + 1)) lawQ 999 [some (.ref 0), some (.ref 32), some (.ref 173), some (.int x)] [] n mi mr := by
  have hR := I.1
  have hn := I.2.1
  have hBD := I.2.2.1
  skip
  refine V_aload_n dL_law_999 rfl ?_
  refine V_aload_n dL_law_1000 rfl ?_
  refine V_iload_n dL_law_1001 rfl ?_
  refine V_iconst (v := 1) dL_law_1002 rfl ?_
  refine V_iadd dL_law_1003 ?_
  refine V_scr (len := len) (i + 1) dL_law_1004 hlen (ix_add hx (by decide) (by omega)) (by omega) ?_
  refine V_aload_n dL_law_1005 rfl ?_
  refine V_iload_n dL_law_1006 rfl ?_
  refine V_iconst (v := 2) dL_law_1007 rfl ?_
  refine V_iadd dL_law_1008 ?_
  refine V_scr (len := len) (i + 2) dL_law_1009 hlen (ix_add hx (by decide) (by omega)) (by omega) ?_
  refine V_aload_n dL_law_1010 rfl ?_
  refine V_iload_n dL_law_1011 rfl ?_
  refine V_iconst (v := 3) dL_law_1012 rfl ?_
  refine V_iadd dL_law_1013 ?_
  refine V_scr (len := len) (i + 3) dL_law_1014 hlen (ix_add hx (by decide) (by omega)) (by omega) ?_
  refine V_callV (ci := 7) (qX7_night n mi mr c I (mi 0 (i + 1)) (mi 0 (i + 2)) (mi 0 (i + 3))) dL_law_1015 mlL_128 mtX7_night ivX7_night rfl rfl ⟨by omega, by omega⟩ (by decide) rfl rfl (by decide) (Nat.le_of_ble_eq_true rfl) rfl rfl ?_
  rintro _ _ _ _ ⟨rfl, rfl, rfl, rfl⟩
  have w0 := w_night I (mi 0 (i + 1)) (mi 0 (i + 2)) (mi 0 (i + 3)) 0 (Or.inl rfl)
  have w4 := w_night I (mi 0 (i + 1)) (mi 0 (i + 2)) (mi 0 (i + 3)) 174 (Or.inr rfl)
  refine V_aload_n dL_law_1018 rfl ?_
  refine V_aload_n dL_law_1019 rfl ?_
  refine V_iload_n dL_law_1020 rfl ?_
  refine V_iconst (v := 1) dL_law_1021 rfl ?_
  refine V_iadd dL_law_1022 ?_
  refine V_scr (len := len) (i + 1) dL_law_1023 hlen (ix_add hx (by decide) (by omega)) (by omega) ?_
  refine V_aload_n dL_law_1024 rfl ?_
  refine V_iload_n dL_law_1025 rfl ?_
  refine V_iconst (v := 2) dL_law_1026 rfl ?_
  refine V_iadd dL_law_1027 ?_
  refine V_scr (len := len) (i + 2) dL_law_1028 hlen (ix_add hx (by decide) (by omega)) (by omega) ?_
  refine V_aload_n dL_law_1029 rfl ?_
  refine V_iload_n dL_law_1030 rfl ?_
  refine V_iconst (v := 3) dL_law_1031 rfl ?_
  refine V_iadd dL_law_1032 ?_
  refine V_scr (len := len) (i + 3) dL_law_1033 hlen (ix_add hx (by decide) (by omega)) (by omega) ?_
  refine V_callV (ci := 8) (qX8_night n (cNight mi (mi 0 (i + 1)) (mi 0 (i + 2)) (mi 0 (i + 3))) mr c hR hn (by rw [w4]; exact hBD) ((cNight mi (mi 0 (i + 1)) (mi 0 (i + 2)) (mi 0 (i + 3))) 0 (i + 1)) ((cNight mi (mi 0 (i + 1)) (mi 0 (i + 2)) (mi 0 (i + 3))) 0 (i + 2)) ((cNight mi (mi 0 (i + 1)) (mi 0 (i + 2)) (mi 0 (i + 3))) 0 (i + 3))) dL_law_1034 mlL_131 mtX8_night ivX8_night rfl rfl ⟨by omega, by omega⟩ (by decide) rfl rfl (by decide) (Nat.le_of_ble_eq_true rfl) rfl rfl ?_
  rintro _ _ _ _ ⟨rfl, rfl, rfl, rfl⟩
  refine V_icmp_eq (tgt := 1259) dL_law_1037 (by decide) (fun c1037 => ?_) (fun c1037 => absurd (by rw [w0, w4]) c1037)
  refine V_iinc (v := _ + (5)) (L' := [_, _, _, _]) dL_law_1259 (by decide) rfl rfl rfl rfl ?_
  refine V_goto (tgt := 18) dL_law_1262 (by decide) ?_
  have hx5 : (x + 5).toInt = ((i + 5 : Nat) : Int) := ix_add hx (by decide) (by omega)
  obtain ⟨c2, I2⟩ := i_night I (mi 0 (i + 1)) (mi 0 (i + 2)) (mi 0 (i + 3))
  exact (ih _ _ _ c2 _ (by rw [w0]; exact I2) hlen hx5).less (by omega) (by show 4 * m ≤ 4 * (m + 1); omega)
set_option maxRecDepth 4000 in
theorem law_done {len m i n : Nat} {mi : MI} {mr : MR} {c : CT} {x : Int32} (I : INV n mi mr c) (hlen : mr 0 0 = some len) (hx : x.toInt = (i : Int)) (hi : i + 5 ≤ len) (hl : len ≤ 2560) (ih : NX len m (i + 5)) : V KL_law 33 (m + 1) (4 * (m + 1)) lawQ 1042 [some (.ref 0), some (.ref 32), some (.ref 173), some (.int x)] [] n mi mr := by
  have hR := I.1
  have hn := I.2.1
  have hBD := I.2.2.1
  obtain ⟨nc, e, b, hO, hMV⟩ := I.mv
  refine V_aload_n dL_law_1042 rfl ?_
  refine V_aload_n dL_law_1043 rfl ?_
  refine V_iload_n dL_law_1044 rfl ?_
  refine V_iconst (v := 1) dL_law_1045 rfl ?_
  refine V_iadd dL_law_1046 ?_
  refine V_scr (len := len) (i + 1) dL_law_1047 hlen (ix_add hx (by decide) (by omega)) (by omega) ?_
  refine V_callV (ci := 7) (qX7_done n mi mr c I nc e hO (mi 0 (i + 1))) dL_law_1048 mlL_132 mtX7_done ivX7_done rfl rfl ⟨by omega, by omega⟩ (by decide) rfl rfl (by decide) (Nat.le_of_ble_eq_true rfl) rfl rfl ?_
  rintro _ n1 m1 r1 hq
  have I1 := i_done I hq
  obtain ⟨rfl, rfl, hR, hl1, hw⟩ := w_tr I hq
  have hlen := hl1.trans hlen
  have w0 := hw 0 (Or.inl rfl)
  have w4 := hw 174 (Or.inr rfl)
  refine V_aload_n dL_law_1051 rfl ?_
  refine V_aload_n dL_law_1052 rfl ?_
  refine V_iload_n dL_law_1053 rfl ?_
  refine V_iconst (v := 1) dL_law_1054 rfl ?_
  refine V_iadd dL_law_1055 ?_
  refine V_scr (len := len) (i + 1) dL_law_1056 hlen (ix_add hx (by decide) (by omega)) (by omega) ?_
  refine V_callV (ci := 8) (qX8_done n m1 r1 c hR hn (by rw [w4]; exact hBD) nc e (mi (hvOf (mi 174) + 1)) (mi (hvOf (mi 174) + 2)) b (by rw [w4]; exact hMV) (m1 0 (i + 1))) dL_law_1057 mlL_135 mtX8_done ivX8_done rfl rfl ⟨by omega, by omega⟩ (by decide) rfl rfl (by decide) (Nat.le_of_ble_eq_true rfl) rfl rfl ?_
  rintro _ _ m2 _ ⟨rfl, rfl, rfl, ho2⟩
  refine V_icmp_eq (tgt := 1259) dL_law_1060 (by decide) (fun c1060 => ?_) (fun c1060 => absurd (by rw [w0, w4]) c1060)
  refine V_iinc (v := _ + (5)) (L' := [_, _, _, _]) dL_law_1259 (by decide) rfl rfl rfl rfl ?_
  refine V_goto (tgt := 18) dL_law_1262 (by decide) ?_
  have hx5 : (x + 5).toInt = ((i + 5 : Nat) : Int) := ix_add hx (by decide) (by omega)
  exact (ih _ _ _ c _ (I1.offM ho2) hlen hx5).less (by omega) (by show 4 * m ≤ 4 * (m + 1); omega)
set_option maxRecDepth 4000 in
theorem law_book {len m i n : Nat} {mi : MI} {mr : MR} {c : CT} {x : Int32} (I : INV n mi mr c) (hlen : mr 0 0 = some len) (hx : x.toInt = (i : Int)) (hi : i + 5 ≤ len) (hl : len ≤ 2560) (ih : NX len m (i + 5)) : V KL_law 33 (m + 1) (4 * (m + 1)) lawQ 1065 [some (.ref 0), some (.ref 32), some (.ref 173), some (.int x)] [] n mi mr := by
  have hR := I.1
  have hn := I.2.1
  have hBD := I.2.2.1
  skip
  refine V_aload_n dL_law_1065 rfl ?_
  refine V_aload_n dL_law_1066 rfl ?_
  refine V_iload_n dL_law_1067 rfl ?_
  refine V_iconst (v := 1) dL_law_1068 rfl ?_
  refine V_iadd dL_law_1069 ?_
  refine V_scr (len := len) (i + 1) dL_law_1070 hlen (ix_add hx (by decide) (by omega)) (by omega) ?_
  refine V_aload_n dL_law_1071 rfl ?_
  refine V_iload_n dL_law_1072 rfl ?_
  refine V_iconst (v := 2) dL_law_1073 rfl ?_
  refine V_iadd dL_law_1074 ?_
  refine V_scr (len := len) (i + 2) dL_law_1075 hlen (ix_add hx (by decide) (by omega)) (by omega) ?_
  refine V_callV (ci := 7) (qX7_book n mi mr c I (mi 0 (i + 1)) (mi 0 (i + 2))) dL_law_1076 mlL_136 mtX7_book ivX7_book rfl rfl ⟨by omega, by omega⟩ (by decide) rfl rfl (by decide) (Nat.le_of_ble_eq_true rfl) rfl rfl ?_
  rintro _ _ _ _ ⟨rfl, rfl, rfl, rfl⟩
  have w0 := w_book I (mi 0 (i + 1)) (mi 0 (i + 2)) 0 (Or.inl rfl)
  have w4 := w_book I (mi 0 (i + 1)) (mi 0 (i + 2)) 174 (Or.inr rfl)
  refine V_aload_n dL_law_1079 rfl ?_
  refine V_aload_n dL_law_1080 rfl ?_
  refine V_iload_n dL_law_1081 rfl ?_
  refine V_iconst (v := 1) dL_law_1082 rfl ?_
  refine V_iadd dL_law_1083 ?_
  refine V_scr (len := len) (i + 1) dL_law_1084 hlen (ix_add hx (by decide) (by omega)) (by omega) ?_
  refine V_aload_n dL_law_1085 rfl ?_
  refine V_iload_n dL_law_1086 rfl ?_
  refine V_iconst (v := 2) dL_law_1087 rfl ?_
  refine V_iadd dL_law_1088 ?_
  refine V_scr (len := len) (i + 2) dL_law_1089 hlen (ix_add hx (by decide) (by omega)) (by omega) ?_
  refine V_callV (ci := 8) (qX8_book n (cTell mi 53 16 8 (mi 0 (i + 1)) (mi 0 (i + 2))) mr c hR hn (by rw [w4]; exact hBD) ((cTell mi 53 16 8 (mi 0 (i + 1)) (mi 0 (i + 2))) 0 (i + 1)) ((cTell mi 53 16 8 (mi 0 (i + 1)) (mi 0 (i + 2))) 0 (i + 2))) dL_law_1090 mlL_139 mtX8_book ivX8_book rfl rfl ⟨by omega, by omega⟩ (by decide) rfl rfl (by decide) (Nat.le_of_ble_eq_true rfl) rfl rfl ?_
  rintro _ _ _ _ ⟨rfl, rfl, rfl, rfl⟩
  refine V_icmp_eq (tgt := 1259) dL_law_1093 (by decide) (fun c1093 => ?_) (fun c1093 => absurd (by rw [w0, w4]) c1093)
  refine V_iinc (v := _ + (5)) (L' := [_, _, _, _]) dL_law_1259 (by decide) rfl rfl rfl rfl ?_
  refine V_goto (tgt := 18) dL_law_1262 (by decide) ?_
  have hx5 : (x + 5).toInt = ((i + 5 : Nat) : Int) := ix_add hx (by decide) (by omega)
  obtain ⟨c2, I2⟩ := i_book I (mi 0 (i + 1)) (mi 0 (i + 2))
  exact (ih _ _ _ c2 _ (by rw [w0]; exact I2) hlen hx5).less (by omega) (by show 4 * m ≤ 4 * (m + 1); omega)
set_option maxRecDepth 4000 in
theorem law_looked {len m i n : Nat} {mi : MI} {mr : MR} {c : CT} {x : Int32} (I : INV n mi mr c) (hlen : mr 0 0 = some len) (hx : x.toInt = (i : Int)) (hi : i + 5 ≤ len) (hl : len ≤ 2560) (ih : NX len m (i + 5)) : V KL_law 33 (m + 1) (4 * (m + 1)) lawQ 1098 [some (.ref 0), some (.ref 32), some (.ref 173), some (.int x)] [] n mi mr := by
  have hR := I.1
  have hn := I.2.1
  have hBD := I.2.2.1
  skip
  refine V_aload_n dL_law_1098 rfl ?_
  refine V_callV (ci := 7) (qX7_looked n mi mr c I) dL_law_1099 mlL_140 mtX7_looked ivX7_looked rfl rfl ⟨by omega, by omega⟩ (by decide) rfl rfl (by decide) (Nat.le_of_ble_eq_true rfl) rfl rfl ?_
  rintro _ _ _ _ ⟨rfl, rfl, rfl, rfl⟩
  refine V_aload_n dL_law_1102 rfl ?_
  refine V_callV (ci := 8) (qX8_looked n mi mr c hR hn hBD) dL_law_1103 mlL_143 mtX8_looked ivX8_looked rfl rfl ⟨by omega, by omega⟩ (by decide) rfl rfl (by decide) (Nat.le_of_ble_eq_true rfl) rfl rfl ?_
  rintro _ _ _ _ ⟨rfl, rfl, rfl, rfl⟩
  refine V_icmp_eq (tgt := 1259) dL_law_1106 (by decide) (fun c1106 => ?_) (fun c1106 => absurd rfl c1106)
  refine V_iinc (v := _ + (5)) (L' := [_, _, _, _]) dL_law_1259 (by decide) rfl rfl rfl rfl ?_
  refine V_goto (tgt := 18) dL_law_1262 (by decide) ?_
  have hx5 : (x + 5).toInt = ((i + 5 : Nat) : Int) := ix_add hx (by decide) (by omega)
  exact (ih _ _ _ c _ I hlen hx5).less (by omega) (by show 4 * m ≤ 4 * (m + 1); omega)
set_option maxRecDepth 4000 in
theorem law_act {len m i n : Nat} {mi : MI} {mr : MR} {c : CT} {x : Int32} (I : INV n mi mr c) (hlen : mr 0 0 = some len) (hx : x.toInt = (i : Int)) (hi : i + 5 ≤ len) (hl : len ≤ 2560) (ih : NX len m (i + 5)) : V KL_law 33 (m + 1) (4 * (m + 1)) lawQ 1111 [some (.ref 0), some (.ref 32), some (.ref 173), some (.int x)] [] n mi mr := by
  have hR := I.1
  have hn := I.2.1
  have hBD := I.2.2.1
  skip
  refine V_aload_n dL_law_1111 rfl ?_
  refine V_aload_n dL_law_1112 rfl ?_
  refine V_iload_n dL_law_1113 rfl ?_
  refine V_iconst (v := 1) dL_law_1114 rfl ?_
  refine V_iadd dL_law_1115 ?_
  refine V_scr (len := len) (i + 1) dL_law_1116 hlen (ix_add hx (by decide) (by omega)) (by omega) ?_
  refine V_aload_n dL_law_1117 rfl ?_
  refine V_iload_n dL_law_1118 rfl ?_
  refine V_iconst (v := 2) dL_law_1119 rfl ?_
  refine V_iadd dL_law_1120 ?_
  refine V_scr (len := len) (i + 2) dL_law_1121 hlen (ix_add hx (by decide) (by omega)) (by omega) ?_
  refine V_aload_n dL_law_1122 rfl ?_
  refine V_iload_n dL_law_1123 rfl ?_
  refine V_iconst (v := 3) dL_law_1124 rfl ?_
  refine V_iadd dL_law_1125 ?_
  refine V_scr (len := len) (i + 3) dL_law_1126 hlen (ix_add hx (by decide) (by omega)) (by omega) ?_
  refine V_callV (ci := 7) (qX7_act n mi mr c I (mi 0 (i + 1)) (mi 0 (i + 2)) (mi 0 (i + 3))) dL_law_1127 mlL_144 mtX7_act ivX7_act rfl rfl ⟨by omega, by omega⟩ (by decide) rfl rfl (by decide) (Nat.le_of_ble_eq_true rfl) rfl rfl ?_
  rintro _ _ _ _ ⟨rfl, rfl, rfl, rfl⟩
  have w0 := w_act I (mi 0 (i + 1)) (mi 0 (i + 2)) 0 (Or.inl rfl)
  have w4 := w_act I (mi 0 (i + 1)) (mi 0 (i + 2)) 174 (Or.inr rfl)
  refine V_aload_n dL_law_1130 rfl ?_
  refine V_aload_n dL_law_1131 rfl ?_
  refine V_iload_n dL_law_1132 rfl ?_
  refine V_iconst (v := 1) dL_law_1133 rfl ?_
  refine V_iadd dL_law_1134 ?_
  refine V_scr (len := len) (i + 1) dL_law_1135 hlen (ix_add hx (by decide) (by omega)) (by omega) ?_
  refine V_aload_n dL_law_1136 rfl ?_
  refine V_iload_n dL_law_1137 rfl ?_
  refine V_iconst (v := 2) dL_law_1138 rfl ?_
  refine V_iadd dL_law_1139 ?_
  refine V_scr (len := len) (i + 2) dL_law_1140 hlen (ix_add hx (by decide) (by omega)) (by omega) ?_
  refine V_aload_n dL_law_1141 rfl ?_
  refine V_iload_n dL_law_1142 rfl ?_
  refine V_iconst (v := 3) dL_law_1143 rfl ?_
  refine V_iadd dL_law_1144 ?_
  refine V_scr (len := len) (i + 3) dL_law_1145 hlen (ix_add hx (by decide) (by omega)) (by omega) ?_
  refine V_callV (ci := 8) (qX8_act n (cAct mi (mi 0 (i + 1)) (mi 0 (i + 2))) mr c hR hn (by rw [w4]; exact hBD) ((cAct mi (mi 0 (i + 1)) (mi 0 (i + 2))) 0 (i + 1)) ((cAct mi (mi 0 (i + 1)) (mi 0 (i + 2))) 0 (i + 2)) ((cAct mi (mi 0 (i + 1)) (mi 0 (i + 2))) 0 (i + 3))) dL_law_1146 mlL_147 mtX8_act ivX8_act rfl rfl ⟨by omega, by omega⟩ (by decide) rfl rfl (by decide) (Nat.le_of_ble_eq_true rfl) rfl rfl ?_
  rintro _ _ _ _ ⟨rfl, rfl, rfl, rfl⟩
  refine V_icmp_eq (tgt := 1259) dL_law_1149 (by decide) (fun c1149 => ?_) (fun c1149 => absurd (by rw [w0, w4]) c1149)
  refine V_iinc (v := _ + (5)) (L' := [_, _, _, _]) dL_law_1259 (by decide) rfl rfl rfl rfl ?_
  refine V_goto (tgt := 18) dL_law_1262 (by decide) ?_
  have hx5 : (x + 5).toInt = ((i + 5 : Nat) : Int) := ix_add hx (by decide) (by omega)
  have I2 := i_act2 I (mi 0 (i + 1)) (mi 0 (i + 2))
  exact (ih _ _ _ c _ (by rw [w0]; exact I2) hlen hx5).less (by omega) (by show 4 * m ≤ 4 * (m + 1); omega)
set_option maxRecDepth 4000 in
theorem law_trace {len m i n : Nat} {mi : MI} {mr : MR} {c : CT} {x : Int32} (I : INV n mi mr c) (hlen : mr 0 0 = some len) (hx : x.toInt = (i : Int)) (hi : i + 5 ≤ len) (hl : len ≤ 2560) (ih : NX len m (i + 5)) : V KL_law 33 (m + 1) (4 * (m + 1)) lawQ 1154 [some (.ref 0), some (.ref 32), some (.ref 173), some (.int x)] [] n mi mr := by
  have hR := I.1
  have hn := I.2.1
  have hBD := I.2.2.1
  obtain ⟨hT1, K, hK0, hK1, -⟩ := I.2.2.2.2.2.2.2
  have hK : nat (mi 173 25) K := by rw [← hT1]; exact hK0
  refine V_aload_n dL_law_1154 rfl ?_
  refine V_aload_n dL_law_1155 rfl ?_
  refine V_iload_n dL_law_1156 rfl ?_
  refine V_iconst (v := 1) dL_law_1157 rfl ?_
  refine V_iadd dL_law_1158 ?_
  refine V_scr (len := len) (i + 1) dL_law_1159 hlen (ix_add hx (by decide) (by omega)) (by omega) ?_
  refine V_callV (ci := 7) (qX7_trace n mi mr c I (mi 0 (i + 1))) dL_law_1160 mlL_148 mtX7_trace ivX7_trace rfl rfl ⟨by omega, by omega⟩ (by decide) rfl rfl (by decide) (Nat.le_of_ble_eq_true rfl) rfl rfl ?_
  rintro _ _ _ _ ⟨rfl, rfl, rfl, rfl⟩
  refine V_aload_n dL_law_1163 rfl ?_
  refine V_aload_n dL_law_1164 rfl ?_
  refine V_iload_n dL_law_1165 rfl ?_
  refine V_iconst (v := 1) dL_law_1166 rfl ?_
  refine V_iadd dL_law_1167 ?_
  refine V_scr (len := len) (i + 1) dL_law_1168 hlen (ix_add hx (by decide) (by omega)) (by omega) ?_
  refine V_callV (ci := 8) (qX8_trace n mi mr c hR hn hBD K hK hK1 (mi 0 (i + 1))) dL_law_1169 mlL_151 mtX8_trace ivX8_trace rfl rfl ⟨by omega, by omega⟩ (by decide) rfl rfl (by decide) (Nat.le_of_ble_eq_true rfl) rfl rfl ?_
  rintro _ _ _ _ ⟨rfl, rfl, rfl, rfl⟩
  refine V_icmp_eq (tgt := 1259) dL_law_1172 (by decide) (fun c1172 => ?_) (fun c1172 => absurd rfl c1172)
  refine V_iinc (v := _ + (5)) (L' := [_, _, _, _]) dL_law_1259 (by decide) rfl rfl rfl rfl ?_
  refine V_goto (tgt := 18) dL_law_1262 (by decide) ?_
  have hx5 : (x + 5).toInt = ((i + 5 : Nat) : Int) := ix_add hx (by decide) (by omega)
  exact (ih _ _ _ c _ I hlen hx5).less (by omega) (by show 4 * m ≤ 4 * (m + 1); omega)
set_option maxRecDepth 4000 in
theorem law_as {len m i n : Nat} {mi : MI} {mr : MR} {c : CT} {x : Int32} (I : INV n mi mr c) (hlen : mr 0 0 = some len) (hx : x.toInt = (i : Int)) (hi : i + 5 ≤ len) (hl : len ≤ 2560) (ih : NX len m (i + 5)) : V KL_law 33 (m + 1) (4 * (m + 1)) lawQ 1177 [some (.ref 0), some (.ref 32), some (.ref 173), some (.int x)] [] n mi mr := by
  have hR := I.1
  have hn := I.2.1
  have hBD := I.2.2.1
  skip
  refine V_aload_n dL_law_1177 rfl ?_
  refine V_aload_n dL_law_1178 rfl ?_
  refine V_iload_n dL_law_1179 rfl ?_
  refine V_iconst (v := 1) dL_law_1180 rfl ?_
  refine V_iadd dL_law_1181 ?_
  refine V_scr (len := len) (i + 1) dL_law_1182 hlen (ix_add hx (by decide) (by omega)) (by omega) ?_
  refine V_aload_n dL_law_1183 rfl ?_
  refine V_iload_n dL_law_1184 rfl ?_
  refine V_iconst (v := 2) dL_law_1185 rfl ?_
  refine V_iadd dL_law_1186 ?_
  refine V_scr (len := len) (i + 2) dL_law_1187 hlen (ix_add hx (by decide) (by omega)) (by omega) ?_
  refine V_callV (ci := 7) (qX7_as n mi mr c I (mi 0 (i + 1)) (mi 0 (i + 2))) dL_law_1188 mlL_152 mtX7_as ivX7_as rfl rfl ⟨by omega, by omega⟩ (by decide) rfl rfl (by decide) (Nat.le_of_ble_eq_true rfl) rfl rfl ?_
  rintro _ _ _ _ ⟨rfl, rfl, rfl, rfl⟩
  refine V_aload_n dL_law_1191 rfl ?_
  refine V_aload_n dL_law_1192 rfl ?_
  refine V_iload_n dL_law_1193 rfl ?_
  refine V_iconst (v := 1) dL_law_1194 rfl ?_
  refine V_iadd dL_law_1195 ?_
  refine V_scr (len := len) (i + 1) dL_law_1196 hlen (ix_add hx (by decide) (by omega)) (by omega) ?_
  refine V_aload_n dL_law_1197 rfl ?_
  refine V_iload_n dL_law_1198 rfl ?_
  refine V_iconst (v := 2) dL_law_1199 rfl ?_
  refine V_iadd dL_law_1200 ?_
  refine V_scr (len := len) (i + 2) dL_law_1201 hlen (ix_add hx (by decide) (by omega)) (by omega) ?_
  refine V_callV (ci := 8) (qX8_as n mi mr c hR hn hBD (mi 0 (i + 1)) (mi 0 (i + 2))) dL_law_1202 mlL_155 mtX8_as ivX8_as rfl rfl ⟨by omega, by omega⟩ (by decide) rfl rfl (by decide) (Nat.le_of_ble_eq_true rfl) rfl rfl ?_
  rintro _ _ _ _ ⟨rfl, rfl, rfl, rfl⟩
  refine V_icmp_eq (tgt := 1259) dL_law_1205 (by decide) (fun c1205 => ?_) (fun c1205 => absurd rfl c1205)
  refine V_iinc (v := _ + (5)) (L' := [_, _, _, _]) dL_law_1259 (by decide) rfl rfl rfl rfl ?_
  refine V_goto (tgt := 18) dL_law_1262 (by decide) ?_
  have hx5 : (x + 5).toInt = ((i + 5 : Nat) : Int) := ix_add hx (by decide) (by omega)
  exact (ih _ _ _ c _ I hlen hx5).less (by omega) (by show 4 * m ≤ 4 * (m + 1); omega)
set_option maxRecDepth 4000 in
theorem law_image {len m i n : Nat} {mi : MI} {mr : MR} {c : CT} {x : Int32} (I : INV n mi mr c) (hlen : mr 0 0 = some len) (hx : x.toInt = (i : Int)) (hi : i + 5 ≤ len) (hl : len ≤ 2560) (ih : NX len m (i + 5)) : V KL_law 33 (m + 1) (4 * (m + 1)) lawQ 1210 [some (.ref 0), some (.ref 32), some (.ref 173), some (.int x)] [] n mi mr := by
  have hR := I.1
  have hn := I.2.1
  have hBD := I.2.2.1
  skip
  refine V_aload_n dL_law_1210 rfl ?_
  refine V_callV (ci := 7) (qX7_image n mi mr c I) dL_law_1211 mlL_156 mtX7_image ivX7_image rfl rfl ⟨by omega, by omega⟩ (by decide) rfl rfl (by decide) (Nat.le_of_ble_eq_true rfl) rfl rfl ?_
  rintro _ n1 m1 r1 hq
  obtain ⟨rfl, rfl, hl1, hw⟩ := w_image hq
  have hlen := hl1.trans hlen
  have w0 := hw 0 (Or.inl rfl)
  have w4 := hw 174 (Or.inr rfl)
  have hR1 : RF r1 := (i_image I hq).1
  refine V_aload_n dL_law_1214 rfl ?_
  refine V_callV (ci := 8) (qX8_image n m1 r1 c hR1 hn (by rw [w4]; exact hBD)) dL_law_1215 mlL_159 mtX8_image ivX8_image rfl rfl ⟨by omega, by omega⟩ (by decide) rfl rfl (by decide) (Nat.le_of_ble_eq_true rfl) rfl rfl ?_
  rintro _ _ _ _ ⟨rfl, rfl, rfl, rfl⟩
  refine V_icmp_eq (tgt := 1259) dL_law_1218 (by decide) (fun c1218 => ?_) (fun c1218 => absurd (by rw [w4]) c1218)
  refine V_iinc (v := _ + (5)) (L' := [_, _, _, _]) dL_law_1259 (by decide) rfl rfl rfl rfl ?_
  refine V_goto (tgt := 18) dL_law_1262 (by decide) ?_
  have hx5 : (x + 5).toInt = ((i + 5 : Nat) : Int) := ix_add hx (by decide) (by omega)
  exact (ih _ _ _ c _ (i_image I hq) hlen hx5).less (by omega) (by show 4 * m ≤ 4 * (m + 1); omega)
set_option maxRecDepth 4000 in
theorem law_undo {len m i n : Nat} {mi : MI} {mr : MR} {c : CT} {x : Int32} (I : INV n mi mr c) (hlen : mr 0 0 = some len) (hx : x.toInt = (i : Int)) (hi : i + 5 ≤ len) (hl : len ≤ 2560) (ih : NX len m (i + 5)) : V KL_law 33 (m + 1) (4 * (m + 1)) lawQ 1223 [some (.ref 0), some (.ref 32), some (.ref 173), some (.int x)] [] n mi mr := by
  have hR := I.1
  have hn := I.2.1
  have hBD := I.2.2.1
  skip
  refine V_aload_n dL_law_1223 rfl ?_
  refine V_callV (ci := 7) (qX7_undo n mi mr c I) dL_law_1224 mlL_160 mtX7_undo ivX7_undo rfl rfl ⟨by omega, by omega⟩ (by decide) rfl rfl (by decide) (Nat.le_of_ble_eq_true rfl) rfl rfl ?_
  rintro _ n1 m1 r1 hq
  obtain ⟨rfl, rfl, hl1, hw⟩ := w_undo I hq
  have hlen := hl1.trans hlen
  have w0 := hw 0 (Or.inl rfl)
  have w4 := hw 174 (Or.inr rfl)
  have hR1 : RF r1 := (i_undo I hq).elim (fun _ h => h.1)
  refine V_aload_n dL_law_1227 rfl ?_
  refine V_callV (ci := 8) (qX8_undo n m1 r1 c hR1 hn (by rw [w4]; exact hBD)) dL_law_1228 mlL_163 mtX8_undo ivX8_undo rfl rfl ⟨by omega, by omega⟩ (by decide) rfl rfl (by decide) (Nat.le_of_ble_eq_true rfl) rfl rfl ?_
  rintro _ _ _ _ ⟨rfl, rfl, rfl, rfl⟩
  refine V_icmp_eq (tgt := 1259) dL_law_1231 (by decide) (fun c1231 => ?_) (fun c1231 => absurd rfl c1231)
  refine V_iinc (v := _ + (5)) (L' := [_, _, _, _]) dL_law_1259 (by decide) rfl rfl rfl rfl ?_
  refine V_goto (tgt := 18) dL_law_1262 (by decide) ?_
  have hx5 : (x + 5).toInt = ((i + 5 : Nat) : Int) := ix_add hx (by decide) (by omega)
  obtain ⟨c2, I2⟩ := i_undo I hq
  exact (ih _ _ _ c2 _ I2 hlen hx5).less (by omega) (by show 4 * m ≤ 4 * (m + 1); omega)
set_option maxRecDepth 4000 in
theorem law_count {len m i n : Nat} {mi : MI} {mr : MR} {c : CT} {x : Int32} (I : INV n mi mr c) (hlen : mr 0 0 = some len) (hx : x.toInt = (i : Int)) (hi : i + 5 ≤ len) (hl : len ≤ 2560) (ih : NX len m (i + 5)) : V KL_law 33 (m + 1) (4 * (m + 1)) lawQ 1236 [some (.ref 0), some (.ref 32), some (.ref 173), some (.int x)] [] n mi mr := by
  have hR := I.1
  have hn := I.2.1
  have hBD := I.2.2.1
  skip
  refine V_aload_n dL_law_1236 rfl ?_
  refine V_aload_n dL_law_1237 rfl ?_
  refine V_iload_n dL_law_1238 rfl ?_
  refine V_iconst (v := 1) dL_law_1239 rfl ?_
  refine V_iadd dL_law_1240 ?_
  refine V_scr (len := len) (i + 1) dL_law_1241 hlen (ix_add hx (by decide) (by omega)) (by omega) ?_
  refine V_callV (ci := 7) (qX7_count n mi mr c I (mi 0 (i + 1))) dL_law_1242 mlL_164 mtX7_count ivX7_count rfl rfl ⟨by omega, by omega⟩ (by decide) rfl rfl (by decide) (Nat.le_of_ble_eq_true rfl) rfl rfl ?_
  rintro _ _ _ _ ⟨rfl, rfl, rfl, rfl⟩
  refine V_aload_n dL_law_1245 rfl ?_
  refine V_aload_n dL_law_1246 rfl ?_
  refine V_iload_n dL_law_1247 rfl ?_
  refine V_iconst (v := 1) dL_law_1248 rfl ?_
  refine V_iadd dL_law_1249 ?_
  refine V_scr (len := len) (i + 1) dL_law_1250 hlen (ix_add hx (by decide) (by omega)) (by omega) ?_
  refine V_callV (ci := 8) (qX8_count n mi mr c hR hn hBD (mi 0 (i + 1))) dL_law_1251 mlL_167 mtX8_count ivX8_count rfl rfl ⟨by omega, by omega⟩ (by decide) rfl rfl (by decide) (Nat.le_of_ble_eq_true rfl) rfl rfl ?_
  rintro _ _ _ _ ⟨rfl, rfl, rfl, rfl⟩
  refine V_icmp_eq (tgt := 1259) dL_law_1254 (by decide) (fun c1254 => ?_) (fun c1254 => absurd rfl c1254)
  refine V_iinc (v := _ + (5)) (L' := [_, _, _, _]) dL_law_1259 (by decide) rfl rfl rfl rfl ?_
  refine V_goto (tgt := 18) dL_law_1262 (by decide) ?_
  have hx5 : (x + 5).toInt = ((i + 5 : Nat) : Int) := ix_add hx (by decide) (by omega)
  exact (ih _ _ _ c _ I hlen hx5).less (by omega) (by show 4 * m ≤ 4 * (m + 1); omega)
