theorem bit_b {b : Bool} : (b01 (b = true) = 0 ↔ b = false) := by cases b <;> decide
theorem WS.as {mi : MI} {a : Nat} {W W' : List Int32} (h : WS mi a W) (e : W = W') : WS mi a W' := e ▸ h
set_option maxRecDepth 4000 in
theorem qX2_readEither (n : Nat) (mr : MR) (hR : RF mr) (hn : 186 ≤ n) (rd va : Nat) (hrd : 186 ≤ rd) (hrdn : rd < n) (hrd0 : mr rd 0 = some 44) (hrd2 : mr rd 2 = some va) (hva : isV va) (T : Nat → Int32) (E : Nat) (hE : E ≤ 100) (hT : ∀ j, j < E → 0 ≤ T j ∧ T j ≤ 127) (r : Nat) (hr : r ≤ 5) (hF : (∀ (mi : MI) (p : Nat) (W : List Int32) (x : Int32), p ≤ E → RdS mi rd T E p → WS mi va W → W.length ≤ p → x.toInt = 5 - (r : Int) → Ct KX2_readFactor (7 + 2 * r) 0 0 [.ref rd, .int x] n mi mr (PostC (fac T E r p) n mi mr rd va W))) : (∀ (mi : MI) (p : Nat) (W : List Int32) (x : Int32), p ≤ E → RdS mi rd T E p → WS mi va W → W.length ≤ p → x.toInt = 5 - (r : Int) → Ct KX2_readEither (8 + 2 * r) 0 0 [.ref rd, .int x] n mi mr (PostC (som T E (fac T E r) p) n mi mr rd va W)) := by
  intro mi p0 W x hp hSt hWS hWp hx
  refine Ct.of2 [some (.ref rd), some (.int x), none, none, none] (by decide +kernel) (Nat.le_of_ble_eq_true rfl) rfl ?_
  have hge := hva.ge
  have hGP : ∀ p, p ≤ E → GP E (2 * r + 1) p p (fac T E r p) := fun p hp => fac_ok hp
  have loop : ∀ (N p : Nat) (mj : MI) (u : Int32) (i j k : Nat) (a e : List Int32) (an oo : Bool), E < p + N → p ≤ E → p0 ≤ p → u.toInt = (i : Int) → 2 * i ≤ p → E ≤ j + p → E ≤ k + p → Off (offV rd va) mi mj → RdS mj rd T E p → WS mj va (W ++ a ++ e) → (W ++ a ++ e).length + (if an = true then 1 else 0) + (if oo = true then 1 else 0) ≤ p → (an = false → e = []) → (oo = false → a = []) → som T E (fac T E r) p0 = bindP (bindP ((fac T E r) p) (fun q l => evL T E (fac T E r) j (if an = true then e ++ l ++ [-2] else l) q)) (fun q l => if oo = true then soL T E (fac T E r) k (a ++ l ++ [-3]) q else soL T E (fac T E r) k l q) → V KX2_readEither (8 + 2 * r) 0 0 (PostC (som T E (fac T E r) p0) n mi mr rd va W) 7 [some (.ref rd), some (.int x), some (.int (b01 (an = true))), some (.int (b01 (oo = true))), some (.int u)] [] n mj mr := by
    intro N
    induction N with
    | zero => intro p mj u i j k a e an oo h1 h2; exact absurd h1 (by omega)
    | succ N ih =>
      intro p mj u i j k a e an oo hN hpE hp0 hu hi hj hk hoj hStj hWj hlen hae hoa hRR
      have hg0 := hGP p hpE
      refine V_iload dX2_readEither_7 rfl ?_
      refine V_bipush (v := 100) dX2_readEither_9 rfl ?_
      refine V_icmp_ge (tgt := 83) dX2_readEither_11 (by decide) (fun c11 => absurd ((le_nat (x := 100) (a := 100) rfl hu).mp c11) (by omega)) (fun c11 => ?_)
      refine V_aload_n dX2_readEither_14 rfl ?_
      refine V_iload_n dX2_readEither_15 rfl ?_
      refine V_callV (ci := 2) (hF mj p (W ++ a ++ e) x hpE hStj hWj (by omega) hx) dX2_readEither_16 mlX2_69 mtX2_readFactor ivX2_readFactor rfl (sRd hrd) ⟨by omega, by omega⟩ (by decide) rfl rfl (by omega) (Nat.le_of_ble_eq_true rfl) rfl rfl ?_
      rintro ro _ m1 _ ⟨rfl, rfl, ho1, hq1, hres⟩
      cases hr9 : fac T E r p with
      | mk q o9 =>
        rw [hr9] at hg0 hq1 hres
        have hqE : q ≤ E := hg0.1.2
        cases o9 with
        | none =>
          obtain ⟨rfl, hs⟩ := hres
          have hRn : som T E (fac T E r) p0 = (q, none) := hRR.trans (bindP_n (bindP_n hr9))
          refine V_if_ne (tgt := 24) dX2_readEither_19 (by decide) (fun c19 => absurd rfl c19) (fun c19 => ?_)
          refine V_iconst (v := 0) dX2_readEither_22 rfl ?_
          refine V_iret dX2_readEither_23 rfl rfl ?_
          rw [hRn]
          exact ⟨rfl, rfl, hoj.tr ho1, hq1, rfl, hs⟩
        | some l =>
          obtain ⟨rfl, hs⟩ := hres
          obtain ⟨g1, g2, g3, g4⟩ := hg0.2 l rfl
          have g1 : p + 1 ≤ q := g1
          have g2 : p + l.length ≤ q := g2
          have hSt1 := hStj.off hrd hva ho1 hq1
          have hR1 : som T E (fac T E r) p0 = bindP (evL T E (fac T E r) j (if an = true then e ++ l ++ [-2] else l) q) (fun q l => if oo = true then soL T E (fac T E r) k (a ++ l ++ [-3]) q else soL T E (fac T E r) k l q) := by
            rw [hRR, bindP_s hr9]
          simp only [List.length_append] at hlen
          have h37 : ∀ (m2 : MI) (e2 : List Int32), e2 = (if an = true then e ++ l ++ [-2] else l) → Off (offV rd va) mi m2 → RdS m2 rd T E q → WS m2 va (W ++ a ++ e2) → (W ++ a ++ e2).length + (if oo = true then 1 else 0) ≤ q → V KX2_readEither (8 + 2 * r) 0 0 (PostC (som T E (fac T E r) p0) n mi mr rd va W) 37 [some (.ref rd), some (.int x), some (.int (b01 (an = true))), some (.int (b01 (oo = true))), some (.int u)] [] n m2 mr := by
            intro m2 e2 he2 ho2 hSt2 hWS2 hl2
            rw [← he2] at hR1
            obtain ⟨j, rfl⟩ : ∃ j0, j = j0 + 1 := ⟨j - 1, by omega⟩
            obtain ⟨k, rfl⟩ : ∃ k0, k = k0 + 1 := ⟨k - 1, by omega⟩
            have hev : evL T E (fac T E r) (j + 1) e2 q = if tk T E q = 38 then bindP (fac T E r (q + 1)) (fun q l => evL T E (fac T E r) j (e2 ++ l ++ [-2]) q) else (q, some e2) := rfl
            have hnoand : ¬ tk T E q = 38 → V KX2_readEither (8 + 2 * r) 0 0 (PostC (som T E (fac T E r) p0) n mi mr rd va W) 51 [some (.ref rd), some (.int x), some (.int (b01 (tk T E q = 38))), some (.int (b01 (oo = true))), some (.int u)] [] n m2 mr := by
              intro ha
              rw [if_neg ha] at hev
              rw [hev] at hR1
              have hR2 : som T E (fac T E r) p0 = soL T E (fac T E r) (k + 1) (if oo = true then a ++ e2 ++ [-3] else e2) q := by
                rw [hR1]
                show (if oo = true then _ else _) = _
                cases oo with
                | true => rw [if_pos rfl, if_pos rfl]
                | false => rw [if_neg (fun h => Bool.noConfusion h), if_neg (fun h => Bool.noConfusion h)]
              have h64 : ∀ (m3 : MI) (a2 : List Int32), a2 = (if oo = true then a ++ e2 ++ [-3] else e2) → Off (offV rd va) mi m3 → RdS m3 rd T E q → WS m3 va (W ++ a2) → (W ++ a2).length ≤ q → V KX2_readEither (8 + 2 * r) 0 0 (PostC (som T E (fac T E r) p0) n mi mr rd va W) 64 [some (.ref rd), some (.int x), some (.int (b01 (tk T E q = 38))), some (.int (b01 (oo = true))), some (.int u)] [] n m3 mr := by
                intro m3 a2 ha2 ho3 hSt3 hWS3 hl3
                rw [← ha2] at hR2
                have hso : soL T E (fac T E r) (k + 1) a2 q = if tk T E q = 124 then bindP (evy T E (fac T E r) (q + 1)) (fun q l => soL T E (fac T E r) k (a2 ++ l ++ [-3]) q) else (q, some a2) := rfl
                rw [b01_f (c := tk T E q = 38) ha]
                refine V_aload_n dX2_readEither_64 rfl ?_
                refine V_bipush (v := 124) dX2_readEither_65 rfl ?_
                refine V_callV (ci := 2) (qX2_takes n mr hR hn rd va hrd hrdn hrd0 hrd2 hva T E hE hT _ q hqE hSt3 124 (by decide)) dX2_readEither_67 mlX2_35 mtX2_takes ivX2_takes rfl (sRd hrd) ⟨by omega, by omega⟩ (by decide) rfl rfl (by omega) (Nat.le_of_ble_eq_true rfl) rfl rfl ?_
                rintro _ _ _ _ ⟨rfl, rfl, rfl, rfl⟩
                refine V_istore_n (L' := [_, _, _, _, _]) dX2_readEither_70 (by decide) rfl rfl ?_
                refine V_iload_n dX2_readEither_71 rfl ?_
                refine V_if_ne (tgt := 77) dX2_readEither_72 (by decide) (fun c72 => ?_) (fun c72 => ?_)
                · refine V_iinc (v := _ + (1)) (L' := [_, _, _, _, _]) dX2_readEither_77 (by decide) rfl rfl rfl rfl ?_
                  refine V_goto (tgt := 7) dX2_readEither_80 (by decide) ?_
                  have hb : tk T E q = 124 := b01_n.mp c72
                  have hq1 := tk_is hb (by decide)
                  rw [if_pos hb] at hso
                  rw [if_pos hb, b01_t hb]
                  have hh := ih (q + 1) _ (u + 1) (i + 1) 100 k a2 [] false true (by omega) (by omega) (by omega) (ix_add hu (by decide) (by omega)) (by omega) (by omega) (by omega) (ho3.tr go_off) (hSt3.go hrd) ((hWS3.go hrd hva).as (by rw [List.append_nil])) (by rw [List.append_nil, if_neg (fun h => Bool.noConfusion h), if_pos rfl]; omega) (fun _ => rfl) (fun h => Bool.noConfusion h) (by
                    rw [hR2, hso]
                    show bindP (evy T E (fac T E r) (q + 1)) _ = _
                    unfold evy
                    refine congrArg (fun f => bindP (bindP (fac T E r (q + 1)) f) _) ?_
                    funext q2 l2
                    rw [if_neg (fun h => Bool.noConfusion h)])
                  rw [b01_t rfl, b01_f (fun h => Bool.noConfusion h)] at hh
                  exact hh
                · refine V_iconst (v := 1) dX2_readEither_75 rfl ?_
                  refine V_iret dX2_readEither_76 rfl rfl ?_
                  have hb : ¬ tk T E q = 124 := b01_0.mp c72
                  rw [if_neg hb] at hso
                  rw [hR2, hso, if_neg hb, up2_id hSt3.2.1]
                  exact ⟨rfl, rfl, ho3, hSt3.2.1, rfl, hWS3⟩
              skip
              refine V_iload_n dX2_readEither_51 rfl ?_
              refine V_if_eq (tgt := 64) dX2_readEither_52 (by decide) (fun c52 => ?_) (fun c52 => ?_)
              · first
                  | (refine h64 _ _ rfl (ho2.tr addV_off) (hSt2.off hrd hva addV_off (by rw [addV_rd hrd hva]; exact hSt2.2.1)) ((addV_ws hWS2 (by omega)).as (by simp only [List.append_assoc])) ?_
                     simp only [List.length_append, List.length_singleton] at hl2 ⊢
                     omega)
                  | (have hoo : oo = false := bit_b.mp c52
                     have ha0 := hoa hoo
                     rw [if_neg (fun h => Bool.noConfusion (hoo.symm.trans h))] at hl2 h64
                     exact h64 m2 e2 rfl ho2 hSt2 (hWS2.as (by rw [ha0, List.append_nil])) (by rw [ha0, List.append_nil] at hl2; exact hl2))
              · have hoo : oo = true := by
                  cases oo with
                  | true => rfl
                  | false => exact absurd (bit_b.mpr rfl) c52
                rw [if_pos hoo] at hl2 h64
                refine V_aload_n dX2_readEither_55 rfl ?_
                refine V_getr (b := va) 2 2 dX2_readEither_56 (Or.inl lkX2_19) rfl (sRd hrd) ⟨by omega, by omega⟩ hrd2 ?_
                refine V_bipush (v := -3) dX2_readEither_59 rfl ?_
                refine V_callV (ci := 5) (qX5_addStep n _ mr hR hn va hva (W ++ a ++ e2).length (by omega) hWS2.1 _) dX2_readEither_61 mlX2_72 mtX5_addStep ivX5_addStep rfl (sV hva (o := 0) (by omega)) ⟨by omega, by omega⟩ (by decide) rfl rfl (by omega) (Nat.le_of_ble_eq_true rfl) rfl rfl ?_
                rintro _ _ _ _ ⟨rfl, rfl, rfl, rfl⟩
                first
                  | (refine h64 _ _ rfl (ho2.tr addV_off) (hSt2.off hrd hva addV_off (by rw [addV_rd hrd hva]; exact hSt2.2.1)) ((addV_ws hWS2 (by omega)).as (by simp only [List.append_assoc])) ?_
                     simp only [List.length_append, List.length_singleton] at hl2 ⊢
                     omega)
                  | (have hoo : oo = false := bit_b.mp c52
                     have ha0 := hoa hoo
                     rw [if_neg (fun h => Bool.noConfusion (hoo.symm.trans h))] at hl2 h64
                     exact h64 m2 e2 rfl ho2 hSt2 (hWS2.as (by rw [ha0, List.append_nil])) (by rw [ha0, List.append_nil] at hl2; exact hl2))
            refine V_aload_n dX2_readEither_37 rfl ?_
            refine V_bipush (v := 38) dX2_readEither_38 rfl ?_
            refine V_callV (ci := 2) (qX2_takes n mr hR hn rd va hrd hrdn hrd0 hrd2 hva T E hE hT _ q hqE hSt2 38 (by decide)) dX2_readEither_40 mlX2_35 mtX2_takes ivX2_takes rfl (sRd hrd) ⟨by omega, by omega⟩ (by decide) rfl rfl (by omega) (Nat.le_of_ble_eq_true rfl) rfl rfl ?_
            rintro _ _ _ _ ⟨rfl, rfl, rfl, rfl⟩
            refine V_istore_n (L' := [_, _, _, _, _]) dX2_readEither_43 (by decide) rfl rfl ?_
            refine V_iload_n dX2_readEither_44 rfl ?_
            refine V_if_eq (tgt := 51) dX2_readEither_45 (by decide) (fun c45 => ?_) (fun c45 => ?_)
            · have ha : ¬ tk T E q = 38 := b01_0.mp c45
              rw [if_neg ha, up2_id hSt2.2.1]
              exact hnoand ha
            · have ha : tk T E q = 38 := b01_n.mp c45
              have hq1 := tk_is ha (by decide)
              rw [if_pos ha] at hev
              rw [hev] at hR1
              rw [if_pos ha]
              refine V_goto (tgt := 77) dX2_readEither_48 (by decide) ?_
              refine V_iinc (v := _ + (1)) (L' := [_, _, _, _, _]) dX2_readEither_77 (by decide) rfl rfl rfl rfl ?_
              refine V_goto (tgt := 7) dX2_readEither_80 (by decide) ?_
              rw [b01_t ha]
              have hb := ih (q + 1) _ (u + 1) (i + 1) j (k + 1) a e2 true oo (by omega) (by omega) (by omega) (ix_add hu (by decide) (by omega)) (by omega) (by omega) (by omega) (ho2.tr go_off) (hSt2.go hrd) (hWS2.go hrd hva) (by rw [if_pos rfl]; omega) (fun h => Bool.noConfusion h) hoa hR1
              rw [b01_t rfl] at hb
              exact hb
          refine V_if_ne (tgt := 24) dX2_readEither_19 (by decide) (fun c19 => ?_) (fun c19 => absurd c19 (by decide))
          refine V_iload_n dX2_readEither_24 rfl ?_
          refine V_if_eq (tgt := 37) dX2_readEither_25 (by decide) (fun c25 => ?_) (fun c25 => ?_)
          · first
              | (refine h37 _ _ rfl ((hoj.tr ho1).tr addV_off) (hSt1.off hrd hva addV_off (by rw [addV_rd hrd hva]; exact hSt1.2.1)) ((addV_ws hs (by simp only [List.length_append]; omega)).as (by simp only [List.append_assoc])) ?_
                 simp only [List.length_append, List.length_singleton]
                 omega)
              | (have han : an = false := bit_b.mp c25
                 have he0 := hae han
                 rw [if_neg (fun h => Bool.noConfusion (han.symm.trans h))] at hlen h37
                 refine h37 _ _ rfl (hoj.tr ho1) hSt1 (hs.as (by rw [he0, List.append_nil])) ?_
                 rw [he0] at hlen
                 simp only [List.length_append, List.length_nil] at hlen ⊢
                 omega)
          · have han : an = true := by
              cases an with
              | true => rfl
              | false => exact absurd (bit_b.mpr rfl) c25
            rw [if_pos han] at hlen h37
            refine V_aload_n dX2_readEither_28 rfl ?_
            refine V_getr (b := va) 2 2 dX2_readEither_29 (Or.inl lkX2_19) rfl (sRd hrd) ⟨by omega, by omega⟩ hrd2 ?_
            refine V_bipush (v := -2) dX2_readEither_32 rfl ?_
            refine V_callV (ci := 5) (qX5_addStep n _ mr hR hn va hva (W ++ a ++ e ++ l).length (by simp only [List.length_append]; omega) hs.1 _) dX2_readEither_34 mlX2_72 mtX5_addStep ivX5_addStep rfl (sV hva (o := 0) (by omega)) ⟨by omega, by omega⟩ (by decide) rfl rfl (by omega) (Nat.le_of_ble_eq_true rfl) rfl rfl ?_
            rintro _ _ _ _ ⟨rfl, rfl, rfl, rfl⟩
            first
              | (refine h37 _ _ rfl ((hoj.tr ho1).tr addV_off) (hSt1.off hrd hva addV_off (by rw [addV_rd hrd hva]; exact hSt1.2.1)) ((addV_ws hs (by simp only [List.length_append]; omega)).as (by simp only [List.append_assoc])) ?_
                 simp only [List.length_append, List.length_singleton]
                 omega)
              | (have han : an = false := bit_b.mp c25
                 have he0 := hae han
                 rw [if_neg (fun h => Bool.noConfusion (han.symm.trans h))] at hlen h37
                 refine h37 _ _ rfl (hoj.tr ho1) hSt1 (hs.as (by rw [he0, List.append_nil])) ?_
                 rw [he0] at hlen
                 simp only [List.length_append, List.length_nil] at hlen ⊢
                 omega)
  refine V_iconst (v := 0) dX2_readEither_0 rfl ?_
  refine V_istore_n (L' := [_, _, _, _, _]) dX2_readEither_1 (by decide) rfl rfl ?_
  refine V_iconst (v := 0) dX2_readEither_2 rfl ?_
  refine V_istore_n (L' := [_, _, _, _, _]) dX2_readEither_3 (by decide) rfl rfl ?_
  refine V_iconst (v := 0) dX2_readEither_4 rfl ?_
  refine V_istore (L' := [_, _, _, _, _]) dX2_readEither_5 (by decide) rfl rfl ?_
  have hh := loop (E + 1) p0 mi 0 0 100 100 [] [] false false (by omega) hp (Nat.le_refl _) (by decide) (Nat.zero_le _) (by omega) (by omega) Off.rf hSt (hWS.as (by rw [List.append_nil, List.append_nil])) (by rw [List.append_nil, List.append_nil]; show W.length + 0 + 0 ≤ p0; omega) (fun _ => rfl) (fun _ => rfl) rfl
  rw [b01_f (fun h => Bool.noConfusion h)] at hh
  exact hh
