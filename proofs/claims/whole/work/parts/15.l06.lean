def l_suggests (n : Nat) (x0 : (Nat → Option vDes)) (x1 : Int32) (x2 : Int32) (x3 : Int32) : Option (Int64) := (k_designAt x0 x1).bind (fun v1 => zOm v1 (some (-1000000000000000)) (fun z3 => (if (x2 : Int32) < (1 : Int32) then some (-1000000000000000) else (if (x2 : Int32) ≤ (1000 : Int32) then (k_aboveYear z3).bind (fun v15 => (k_leastTerms n v15 ((z3.2.2.2.2.1 : Int32).toInt64 * (z3.1.2.1 : Int32).toInt64)).bind (fun v16 => (if (v16.1 : Int64) < (0 : Int64) then some (-1000000000000000) else (if (v16.2 : Int64) < (v16.1 : Int64) then some (-1000000000000000) else (if (v16.2 : Int64) ≤ (1000000 : Int64) then (k_nearest v16.1 v16.2 (x2 : Int32).toInt64).bind (fun v20 => (if (x3 : Int32) = (2 : Int32) then (j_abs ((v20.1 * v16.2) - (v16.1 * v20.2))).bind (fun v24 => (if ((v24 * (z3.1.2.1 : Int32).toInt64) : Int64) = (0 : Int64) then some 0 else zck (decide (¬ ((v24 * (z3.1.2.1 : Int32).toInt64) : Int64) = 0)) (some ((v20.2 * v16.2) / (v24 * (z3.1.2.1 : Int32).toInt64))))) else (k_tellPart v20 x3).bind (fun v25 => some v25))) else some (-1000000000000000)))))) else some (-1000000000000000)))))
theorem oX11_suggests : zO yX11_suggests cX11_suggests 10 (some .long) 3 := ⟨zT_mem 1430 (by decide +kernel) rfl, zT_mem 89 (by decide +kernel) rfl, by decide +kernel, by decide +kernel, by decide +kernel⟩
set_option maxHeartbeats 4000000 in
set_option maxRecDepth 100000 in
theorem cl_suggests (s0 : State) (D : va_G) (cB cI cJ cD : ClassId) (n : Nat) (x0 : (Nat → Option vDes)) (x1 : Int32) (x2 : Int32) (x3 : Int32) (a0 : Nat) (x : Int64) (h : l_suggests n x0 x1 x2 x3 = some x) {hi hm : zHp} {nx : Nat} {Q : Option Value → zHp → zHp → Nat → Prop} (ho0 : iLD cI cD hi hm a0 x0) (hQ0 : ∀ (hi' : zHp) (nx' : Nat), zX hi hi' → Q (some (.long x)) hi' hm nx') : zM s0 D (zty cB cI cJ cD) yX11_suggests cX11_suggests 10 (some .long) 4 102 260 520 [.ref a0, .int x1, .int x2, .int x3] hi hm nx Q := by
  have hQ : ∀ r : Int64, x = r → ∀ (hi' : zHp) (nx' : Nat), zX hi hi' → Q (some (.long r)) hi' hm nx' := fun r hr => by subst hr; exact hQ0
  clear hQ0
  have hXX : zX hi hi := zX.rf
  refine zM_of (by decide +kernel) (Nat.le_of_ble_eq_true rfl) ?_
  unfold l_suggests at h
  refine zV_eq (lo2 := [(0, .ref a0), (1, .int x1), (2, .int x2), (3, .int x3)]) rfl rfl rfl rfl ?_
  refine zV_blk (pc' := 2) (lo' := [(0, .ref a0), (1, .int x1), (2, .int x2), (3, .int x3)]) (st' := [.int x1, .ref a0]) [.aload_n 0, .iload_n 1] (by decide +kernel) rfl ?_
  obtain ⟨v1, hv1, h⟩ := zbind h
  refine zV_designAt (idx := 105) (rest := []) v1 hv1 ho0 (zT_mem 603 (by decide +kernel) rfl) rfl (Nat.le_of_ble_eq_true rfl) ⟨by decide, by decide⟩ (by decide +kernel) (fun hx => ?_) (fun b2 z3 hx ho4 => ?_)
  · subst hx; replace h := zOm_none h
    refine zV_blk (pc' := 9) (lo' := [(4, .null), (0, .ref a0), (1, .int x1), (2, .int x2), (3, .int x3)]) (st' := [.null]) [.astore 4, .aload 4] (by decide +kernel) rfl ?_
    refine zV_ifnull (r := none) (tgt := 24) (off := 15) (by decide +kernel) (by decide) (fun _ => ?_) (fun _ q => by cases q)
    refine zV_less (mc' := 0) (ms' := 0) (by decide) (by decide) ?_
    refine zV_ldc2 (idx := 164) (v := (-1000000000000000)) (zT_mem 681 (by decide +kernel) rfl) (by decide +kernel) ?_
    obtain rfl := Option.some.inj h
    exact zV_lret rfl (by decide +kernel) (hQ _ rfl _ _ hXX)
  · subst hx; replace h := zOm_some h
    refine zV_blk (pc' := 9) (lo' := [(4, .ref b2), (0, .ref a0), (1, .int x1), (2, .int x2), (3, .int x3)]) (st' := [.ref b2]) [.astore 4, .aload 4] (by decide +kernel) rfl ?_
    refine zV_ifnull (r := some b2) (tgt := 24) (off := 15) (by decide +kernel) (by decide) (fun q => by cases q) (fun _ _ => ?_)
    refine zV_blk (pc' := 14) (lo' := [(4, .ref b2), (0, .ref a0), (1, .int x1), (2, .int x2), (3, .int x3)]) (st' := [.int 1, .int x2]) [.iload_n 2, .iconst 1] (by decide +kernel) rfl ?_
    refine zV_icmp_lt (tgt := 24) (off := 10) (by decide +kernel) (by decide) (fun q => ?_) (fun q => ?_)
    · replace h := zif_pos q h
      clear q
      refine zV_less (mc' := 0) (ms' := 0) (by decide) (by decide) ?_
      refine zV_ldc2 (idx := 164) (v := (-1000000000000000)) (zT_mem 681 (by decide +kernel) rfl) (by decide +kernel) ?_
      obtain rfl := Option.some.inj h
      exact zV_lret rfl (by decide +kernel) (hQ _ rfl _ _ hXX)
    · replace h := zif_neg q h
      clear q
      refine zV_blk (pc' := 21) (lo' := [(4, .ref b2), (0, .ref a0), (1, .int x1), (2, .int x2), (3, .int x3)]) (st' := [.int 1000, .int x2]) [.iload_n 2, .sipush 1000] (by decide +kernel) rfl ?_
      refine zV_icmp_le (tgt := 28) (off := 7) (by decide +kernel) (by decide) (fun q => ?_) (fun q => ?_)
      · replace h := zif_pos q h
        clear q
        refine zV_blk (pc' := 30) (lo' := [(4, .ref b2), (0, .ref a0), (1, .int x1), (2, .int x2), (3, .int x3)]) (st' := [.ref b2]) [.aload 4] (by decide +kernel) rfl ?_
        obtain ⟨b5, b6, b7, hc8, hc9, hc10, hc11⟩ := ho4
        refine zV_get (ci := 0) (idx := 109) (k := 0) (N := 3) (fs := [.ref b5, .ref b6, .ref b7]) (v := .ref b5) (Or.inl hc8) rfl z_in0 (by decide) (zT_mem 564 (by decide +kernel) rfl) rfl (by decide +kernel) ?_
        obtain ⟨b12, hc13, hb14⟩ := hc9
        refine zV_get (ci := 3) (idx := 118) (k := 1) (N := 6) (fs := [.int z3.1.1, .int z3.1.2.1, .ref b12, .int z3.1.2.2.2.1, .int z3.1.2.2.2.2.1, .int z3.1.2.2.2.2.2]) (v := .int z3.1.2.1) (Or.inl hc13) rfl z_in3 (by decide) (zT_mem 536 (by decide +kernel) rfl) rfl (by decide +kernel) ?_
        refine zV_blk (pc' := 40) (lo' := [(5, .int z3.1.2.1), (4, .ref b2), (0, .ref a0), (1, .int x1), (2, .int x2), (3, .int x3)]) (st' := [.ref b2]) [.istore 5, .aload 4] (by decide +kernel) rfl ?_
        obtain ⟨v15, hv15, h⟩ := zbind h
        refine zV_roV (idx := 384) (rest := []) (fs := [.ref b5, .ref b6, .ref b7]) (ci := 0) (fun Q2 hQ2 => ck_aboveYear s0 D cB cI cJ cD z3 b2 v15 hv15 ⟨b5, b6, b7, hc8, ⟨b12, hc13, hb14⟩, hc10, hc11⟩ hQ2) oX0_aboveYear (Or.inl hc8) rfl (zT_mem 1372 (by decide +kernel) rfl) (zT_mem 1373 (by decide +kernel) rfl) (zT_mem 1374 (by decide +kernel) rfl) rfl rfl (Nat.le_of_ble_eq_true rfl) ⟨by decide, by decide⟩ (by decide +kernel) ?_
        refine zV_eq (st2 := [.long v15]) rfl rfl rfl rfl ?_
        refine zV_blk (pc' := 45) (lo' := [(5, .int z3.1.2.1), (4, .ref b2), (0, .ref a0), (1, .int x1), (2, .int x2), (3, .int x3)]) (st' := [.ref b2, .long v15]) [.aload 4] (by decide +kernel) rfl ?_
        refine zV_get (ci := 0) (idx := 166) (k := 2) (N := 3) (fs := [.ref b5, .ref b6, .ref b7]) (v := .ref b7) (Or.inl hc8) rfl z_in0 (by decide) (zT_mem 568 (by decide +kernel) rfl) rfl (by decide +kernel) ?_
        refine zV_get (ci := 10) (idx := 387) (k := 2) (N := 5) (fs := [.int z3.2.2.1, .int z3.2.2.2.1, .int z3.2.2.2.2.1, .int z3.2.2.2.2.2.1, .int z3.2.2.2.2.2.2]) (v := .int z3.2.2.2.2.1) (Or.inl hc11) rfl z_in10 (by decide) (zT_mem 283 (by decide +kernel) rfl) rfl (by decide +kernel) ?_
        refine zV_blk (pc' := 56) (lo' := [(5, .int z3.1.2.1), (4, .ref b2), (0, .ref a0), (1, .int x1), (2, .int x2), (3, .int x3)]) (st' := [.long ((z3.2.2.2.2.1 : Int32).toInt64 * (z3.1.2.1 : Int32).toInt64), .long v15]) [.i2l, .iload 5, .i2l, .lmul] (by decide +kernel) rfl ?_
        obtain ⟨v16, hv16, h⟩ := zbind h
        refine zV_alS (mc := 259) (ms := 518) (fun hi' v' => ∃ a' : Nat, v' = some (.ref a') ∧ iFra hi' a' v16) (idx := 421) (rest := []) (fun Q2 hQ2 => ck_leastTerms s0 D cB cI cJ cD n v15 ((z3.2.2.2.2.1 : Int32).toInt64 * (z3.1.2.1 : Int32).toInt64)  v16 hv16  (fun a' hi' nx' hX hr => hQ2 _ _ _ hX ⟨a', rfl, hr⟩)) oX2_leastTerms (zT_mem 1431 (by decide +kernel) rfl) (zT_mem 687 (by decide +kernel) rfl) rfl rfl (Nat.le_of_ble_eq_true rfl) ⟨by decide, by decide⟩ (by decide +kernel) ?_
        rintro _ hi2 nx19 hX ⟨b17, rfl, ho18⟩
        replace hc8 := hX _ _ hc8
        replace hc13 := hX _ _ hc13
        replace hb14 := hb14.mono hX
        replace hc10 := hc10.mono hX
        replace hc11 := hX _ _ hc11
        replace ho0 := ho0.mono hX
        replace hXX := hXX.tr hX; clear hX
        refine zV_eq (st2 := [.ref b17]) rfl rfl rfl rfl ?_
        refine zV_blk (pc' := 63) (lo' := [(6, .ref b17), (5, .int z3.1.2.1), (4, .ref b2), (0, .ref a0), (1, .int x1), (2, .int x2), (3, .int x3)]) (st' := [.ref b17]) [.astore 6, .aload 6] (by decide +kernel) rfl ?_
        refine zV_get (ci := 2) (idx := 425) (k := 0) (N := 2) (fs := [.long v16.1, .long v16.2]) (v := .long v16.1) (Or.inl ho18) rfl z_in2 (by decide) (zT_mem 705 (by decide +kernel) rfl) rfl (by decide +kernel) ?_
        refine zV_blk (pc' := 68) (lo' := [(6, .ref b17), (5, .int z3.1.2.1), (4, .ref b2), (0, .ref a0), (1, .int x1), (2, .int x2), (3, .int x3)]) (st' := [.int (lg_cmp v16.1 0)]) [.lconst 0, .lcmp] (by decide +kernel) rfl ?_
        refine zV_lcmp_lt (tgt := 97) (off := 29) (by decide +kernel) (by decide) (fun q => ?_) (fun q => ?_)
        · replace h := zif_pos q h
          clear q
          refine zV_less (mc' := 0) (ms' := 0) (by decide) (by decide) ?_
          refine zV_ldc2 (idx := 164) (v := (-1000000000000000)) (zT_mem 681 (by decide +kernel) rfl) (by decide +kernel) ?_
          obtain rfl := Option.some.inj h
          exact zV_lret rfl (by decide +kernel) (hQ _ rfl _ _ hXX)
        · replace h := zif_neg q h
          clear q
          refine zV_blk (pc' := 73) (lo' := [(6, .ref b17), (5, .int z3.1.2.1), (4, .ref b2), (0, .ref a0), (1, .int x1), (2, .int x2), (3, .int x3)]) (st' := [.ref b17]) [.aload 6] (by decide +kernel) rfl ?_
          refine zV_get (ci := 2) (idx := 425) (k := 0) (N := 2) (fs := [.long v16.1, .long v16.2]) (v := .long v16.1) (Or.inl ho18) rfl z_in2 (by decide) (zT_mem 705 (by decide +kernel) rfl) rfl (by decide +kernel) ?_
          refine zV_blk (pc' := 78) (lo' := [(6, .ref b17), (5, .int z3.1.2.1), (4, .ref b2), (0, .ref a0), (1, .int x1), (2, .int x2), (3, .int x3)]) (st' := [.ref b17, .long v16.1]) [.aload 6] (by decide +kernel) rfl ?_
          refine zV_get (ci := 2) (idx := 429) (k := 1) (N := 2) (fs := [.long v16.1, .long v16.2]) (v := .long v16.2) (Or.inl ho18) rfl z_in2 (by decide) (zT_mem 707 (by decide +kernel) rfl) rfl (by decide +kernel) ?_
          refine zV_blk (pc' := 82) (lo' := [(6, .ref b17), (5, .int z3.1.2.1), (4, .ref b2), (0, .ref a0), (1, .int x1), (2, .int x2), (3, .int x3)]) (st' := [.int (lg_cmp v16.1 v16.2)]) [.lcmp] (by decide +kernel) rfl ?_
          refine zV_lcmp_gt (tgt := 97) (off := 15) (by decide +kernel) (by decide) (fun q => ?_) (fun q => ?_)
          · replace h := zif_pos q h
            clear q
            refine zV_less (mc' := 0) (ms' := 0) (by decide) (by decide) ?_
            refine zV_ldc2 (idx := 164) (v := (-1000000000000000)) (zT_mem 681 (by decide +kernel) rfl) (by decide +kernel) ?_
            obtain rfl := Option.some.inj h
            exact zV_lret rfl (by decide +kernel) (hQ _ rfl _ _ hXX)
          · replace h := zif_neg q h
            clear q
            refine zV_blk (pc' := 87) (lo' := [(6, .ref b17), (5, .int z3.1.2.1), (4, .ref b2), (0, .ref a0), (1, .int x1), (2, .int x2), (3, .int x3)]) (st' := [.ref b17]) [.aload 6] (by decide +kernel) rfl ?_
            refine zV_get (ci := 2) (idx := 429) (k := 1) (N := 2) (fs := [.long v16.1, .long v16.2]) (v := .long v16.2) (Or.inl ho18) rfl z_in2 (by decide) (zT_mem 707 (by decide +kernel) rfl) rfl (by decide +kernel) ?_
            refine zV_ldc2 (idx := 432) (v := 1000000) (zT_mem 1432 (by decide +kernel) rfl) (by decide +kernel) ?_
            refine zV_blk (pc' := 94) (lo' := [(6, .ref b17), (5, .int z3.1.2.1), (4, .ref b2), (0, .ref a0), (1, .int x1), (2, .int x2), (3, .int x3)]) (st' := [.int (lg_cmp v16.2 1000000)]) [.lcmp] (by decide +kernel) rfl ?_
            refine zV_lcmp_le (tgt := 101) (off := 7) (by decide +kernel) (by decide) (fun q => ?_) (fun q => ?_)
            · replace h := zif_pos q h
              clear q
              refine zV_blk (pc' := 103) (lo' := [(6, .ref b17), (5, .int z3.1.2.1), (4, .ref b2), (0, .ref a0), (1, .int x1), (2, .int x2), (3, .int x3)]) (st' := [.ref b17]) [.aload 6] (by decide +kernel) rfl ?_
              refine zV_get (ci := 2) (idx := 425) (k := 0) (N := 2) (fs := [.long v16.1, .long v16.2]) (v := .long v16.1) (Or.inl ho18) rfl z_in2 (by decide) (zT_mem 705 (by decide +kernel) rfl) rfl (by decide +kernel) ?_
              refine zV_blk (pc' := 108) (lo' := [(6, .ref b17), (5, .int z3.1.2.1), (4, .ref b2), (0, .ref a0), (1, .int x1), (2, .int x2), (3, .int x3)]) (st' := [.ref b17, .long v16.1]) [.aload 6] (by decide +kernel) rfl ?_
              refine zV_get (ci := 2) (idx := 429) (k := 1) (N := 2) (fs := [.long v16.1, .long v16.2]) (v := .long v16.2) (Or.inl ho18) rfl z_in2 (by decide) (zT_mem 707 (by decide +kernel) rfl) rfl (by decide +kernel) ?_
              refine zV_blk (pc' := 113) (lo' := [(6, .ref b17), (5, .int z3.1.2.1), (4, .ref b2), (0, .ref a0), (1, .int x1), (2, .int x2), (3, .int x3)]) (st' := [.long (x2 : Int32).toInt64, .long v16.2, .long v16.1]) [.iload_n 2, .i2l] (by decide +kernel) rfl ?_
              obtain ⟨v20, hv20, h⟩ := zbind h
              refine zV_alS (mc := 0) (ms := 0) (fun hi' v' => ∃ a' : Nat, v' = some (.ref a') ∧ iFra hi' a' v20) (idx := 410) (rest := []) (fun Q2 hQ2 => ck_nearest s0 D cB cI cJ cD v16.1 v16.2 (x2 : Int32).toInt64  v20 hv20  (fun a' hi' nx' hX hr => hQ2 _ _ _ hX ⟨a', rfl, hr⟩)) oX2_nearest (zT_mem 1402 (by decide +kernel) rfl) (zT_mem 1403 (by decide +kernel) rfl) rfl rfl (Nat.le_of_ble_eq_true rfl) ⟨by decide, by decide⟩ (by decide +kernel) ?_
              rintro _ hi2 nx23 hX ⟨b21, rfl, ho22⟩
              replace ho18 := hX _ _ ho18
              replace hc8 := hX _ _ hc8
              replace hc13 := hX _ _ hc13
              replace hb14 := hb14.mono hX
              replace hc10 := hc10.mono hX
              replace hc11 := hX _ _ hc11
              replace ho0 := ho0.mono hX
              replace hXX := hXX.tr hX; clear hX
              refine zV_eq (st2 := [.ref b21]) rfl rfl rfl rfl ?_
              refine zV_blk (pc' := 120) (lo' := [(7, .ref b21), (6, .ref b17), (5, .int z3.1.2.1), (4, .ref b2), (0, .ref a0), (1, .int x1), (2, .int x2), (3, .int x3)]) (st' := [.int 2, .int x3]) [.astore 7, .iload_n 3, .iconst 2] (by decide +kernel) rfl ?_
              refine zV_icmp_eq (tgt := 130) (off := 10) (by decide +kernel) (by decide) (fun q => ?_) (fun q => ?_)
              · replace h := zif_pos q h
                clear q
                refine zV_blk (pc' := 132) (lo' := [(7, .ref b21), (6, .ref b17), (5, .int z3.1.2.1), (4, .ref b2), (0, .ref a0), (1, .int x1), (2, .int x2), (3, .int x3)]) (st' := [.ref b21]) [.aload 7] (by decide +kernel) rfl ?_
                refine zV_get (ci := 2) (idx := 425) (k := 0) (N := 2) (fs := [.long v20.1, .long v20.2]) (v := .long v20.1) (Or.inl ho22) rfl z_in2 (by decide) (zT_mem 705 (by decide +kernel) rfl) rfl (by decide +kernel) ?_
                refine zV_blk (pc' := 137) (lo' := [(7, .ref b21), (6, .ref b17), (5, .int z3.1.2.1), (4, .ref b2), (0, .ref a0), (1, .int x1), (2, .int x2), (3, .int x3)]) (st' := [.ref b17, .long v20.1]) [.aload 6] (by decide +kernel) rfl ?_
                refine zV_get (ci := 2) (idx := 429) (k := 1) (N := 2) (fs := [.long v16.1, .long v16.2]) (v := .long v16.2) (Or.inl ho18) rfl z_in2 (by decide) (zT_mem 707 (by decide +kernel) rfl) rfl (by decide +kernel) ?_
                refine zV_blk (pc' := 143) (lo' := [(7, .ref b21), (6, .ref b17), (5, .int z3.1.2.1), (4, .ref b2), (0, .ref a0), (1, .int x1), (2, .int x2), (3, .int x3)]) (st' := [.ref b17, .long (v20.1 * v16.2)]) [.lmul, .aload 6] (by decide +kernel) rfl ?_
                refine zV_get (ci := 2) (idx := 425) (k := 0) (N := 2) (fs := [.long v16.1, .long v16.2]) (v := .long v16.1) (Or.inl ho18) rfl z_in2 (by decide) (zT_mem 705 (by decide +kernel) rfl) rfl (by decide +kernel) ?_
                refine zV_blk (pc' := 148) (lo' := [(7, .ref b21), (6, .ref b17), (5, .int z3.1.2.1), (4, .ref b2), (0, .ref a0), (1, .int x1), (2, .int x2), (3, .int x3)]) (st' := [.ref b21, .long v16.1, .long (v20.1 * v16.2)]) [.aload 7] (by decide +kernel) rfl ?_
                refine zV_get (ci := 2) (idx := 429) (k := 1) (N := 2) (fs := [.long v20.1, .long v20.2]) (v := .long v20.2) (Or.inl ho22) rfl z_in2 (by decide) (zT_mem 707 (by decide +kernel) rfl) rfl (by decide +kernel) ?_
                refine zV_blk (pc' := 153) (lo' := [(7, .ref b21), (6, .ref b17), (5, .int z3.1.2.1), (4, .ref b2), (0, .ref a0), (1, .int x1), (2, .int x2), (3, .int x3)]) (st' := [.long ((v20.1 * v16.2) - (v16.1 * v20.2))]) [.lmul, .lsub] (by decide +kernel) rfl ?_
                obtain ⟨v24, hv24, h⟩ := zbind h
                refine zV_roS (idx := 294) (rest := []) (fun Q2 hQ2 => cj_abs s0 D cB cI cJ cD ((v20.1 * v16.2) - (v16.1 * v20.2))  v24 hv24  hQ2) oJ9_abs_067f4 (zT_mem 1183 (by decide +kernel) rfl) (zT_mem 693 (by decide +kernel) rfl) rfl rfl (Nat.le_of_ble_eq_true rfl) ⟨by decide, by decide⟩ (by decide +kernel) ?_
                refine zV_eq (st2 := [.long v24]) rfl rfl rfl rfl ?_
                refine zV_blk (pc' := 166) (lo' := [(8, .long (v24 * (z3.1.2.1 : Int32).toInt64)), (7, .ref b21), (6, .ref b17), (5, .int z3.1.2.1), (4, .ref b2), (0, .ref a0), (1, .int x1), (2, .int x2), (3, .int x3)]) (st' := [.int (lg_cmp (v24 * (z3.1.2.1 : Int32).toInt64) 0)]) [.iload 5, .i2l, .lmul, .lstore 8, .lload 8, .lconst 0, .lcmp] (by decide +kernel) rfl ?_
                refine zV_lcmp_ne (tgt := 173) (off := 7) (by decide +kernel) (by decide) (fun q => ?_) (fun q => ?_)
                · replace h := zif_neg q h
                  clear q
                  refine zV_blk (pc' := 175) (lo' := [(8, .long (v24 * (z3.1.2.1 : Int32).toInt64)), (7, .ref b21), (6, .ref b17), (5, .int z3.1.2.1), (4, .ref b2), (0, .ref a0), (1, .int x1), (2, .int x2), (3, .int x3)]) (st' := [.ref b21]) [.aload 7] (by decide +kernel) rfl ?_
                  refine zV_get (ci := 2) (idx := 429) (k := 1) (N := 2) (fs := [.long v20.1, .long v20.2]) (v := .long v20.2) (Or.inl ho22) rfl z_in2 (by decide) (zT_mem 707 (by decide +kernel) rfl) rfl (by decide +kernel) ?_
                  refine zV_blk (pc' := 180) (lo' := [(8, .long (v24 * (z3.1.2.1 : Int32).toInt64)), (7, .ref b21), (6, .ref b17), (5, .int z3.1.2.1), (4, .ref b2), (0, .ref a0), (1, .int x1), (2, .int x2), (3, .int x3)]) (st' := [.ref b17, .long v20.2]) [.aload 6] (by decide +kernel) rfl ?_
                  refine zV_get (ci := 2) (idx := 429) (k := 1) (N := 2) (fs := [.long v16.1, .long v16.2]) (v := .long v16.2) (Or.inl ho18) rfl z_in2 (by decide) (zT_mem 707 (by decide +kernel) rfl) rfl (by decide +kernel) ?_
                  refine zV_blk (pc' := 186) (lo' := [(8, .long (v24 * (z3.1.2.1 : Int32).toInt64)), (7, .ref b21), (6, .ref b17), (5, .int z3.1.2.1), (4, .ref b2), (0, .ref a0), (1, .int x1), (2, .int x2), (3, .int x3)]) (st' := [.long (v24 * (z3.1.2.1 : Int32).toInt64), .long (v20.2 * v16.2)]) [.lmul, .lload 8] (by decide +kernel) rfl ?_
                  obtain ⟨hz, h⟩ := zck_some h
                  refine zV_ldiv (by decide +kernel) (of_decide_eq_true hz) ?_
                  obtain rfl := Option.some.inj h
                  exact zV_lret rfl (by decide +kernel) (hQ _ rfl _ _ hXX)
                · replace h := zif_pos q h
                  clear q
                  refine zV_blk (pc' := 170) (lo' := [(8, .long (v24 * (z3.1.2.1 : Int32).toInt64)), (7, .ref b21), (6, .ref b17), (5, .int z3.1.2.1), (4, .ref b2), (0, .ref a0), (1, .int x1), (2, .int x2), (3, .int x3)]) (st' := [.long 0]) [.lconst 0] (by decide +kernel) rfl ?_
                  refine zV_goto (tgt := 187) (off := 17) (by decide +kernel) (by decide) ?_
                  obtain rfl := Option.some.inj h
                  exact zV_lret rfl (by decide +kernel) (hQ _ rfl _ _ hXX)
              · replace h := zif_neg q h
                clear q
                refine zV_blk (pc' := 126) (lo' := [(7, .ref b21), (6, .ref b17), (5, .int z3.1.2.1), (4, .ref b2), (0, .ref a0), (1, .int x1), (2, .int x2), (3, .int x3)]) (st' := [.int x3, .ref b21]) [.aload 7, .iload_n 3] (by decide +kernel) rfl ?_
                obtain ⟨v25, hv25, h⟩ := zbind h
                refine zV_roV (idx := 179) (rest := []) (fs := [.long v20.1, .long v20.2]) (ci := 2) (fun Q2 hQ2 => ck_tellPart s0 D cB cI cJ cD v20 x3 b21 v25 hv25 ho22 hQ2) oX2_tellPart (Or.inl ho22) rfl (zT_mem 724 (by decide +kernel) rfl) (zT_mem 725 (by decide +kernel) rfl) (zT_mem 726 (by decide +kernel) rfl) rfl rfl (Nat.le_of_ble_eq_true rfl) ⟨by decide, by decide⟩ (by decide +kernel) ?_
                refine zV_eq (st2 := [.long v25]) rfl rfl rfl rfl ?_
                obtain rfl := Option.some.inj h
                exact zV_lret rfl (by decide +kernel) (hQ _ rfl _ _ hXX)
            · replace h := zif_neg q h
              clear q
              refine zV_less (mc' := 0) (ms' := 0) (by decide) (by decide) ?_
              refine zV_ldc2 (idx := 164) (v := (-1000000000000000)) (zT_mem 681 (by decide +kernel) rfl) (by decide +kernel) ?_
              obtain rfl := Option.some.inj h
              exact zV_lret rfl (by decide +kernel) (hQ _ rfl _ _ hXX)
      · replace h := zif_neg q h
        clear q
        refine zV_less (mc' := 0) (ms' := 0) (by decide) (by decide) ?_
        refine zV_ldc2 (idx := 164) (v := (-1000000000000000)) (zT_mem 681 (by decide +kernel) rfl) (by decide +kernel) ?_
        obtain rfl := Option.some.inj h
        exact zV_lret rfl (by decide +kernel) (hQ _ rfl _ _ hXX)

def l_has (n : Nat) (x0 : (Nat → Option vDes)) (x1 : Int32) (x2 : Int32) : Option (Int32) := (k_designAt x0 x1).bind (fun v1 => zOm v1 (some (-1)) (fun z3 => (if (x2 : Int32) = 0 then some z3.1.1 else (if (x2 : Int32) = 1 then some z3.1.2.1 else (if (x2 : Int32) = 2 then (d_sort z3.2.1).bind (fun v35 => some v35) else (if (x2 : Int32) = 3 then some (nI z3.1.2.2.1.1) else (if (x2 : Int32) = 4 then some z3.1.2.2.2.1 else (if (x2 : Int32) = 5 then some z3.1.2.2.2.2.1 else (if (x2 : Int32) = 6 then some z3.1.2.2.2.2.2 else (if (x2 : Int32) = 7 then (d_cycle z3.2.1).bind (fun v88 => some v88) else (if (x2 : Int32) = 8 then (k_leapsInCycle n z3.2.1).bind (fun v97 => some v97) else (k_evenNumber z3.2.1 x2).bind (fun v105 => some v105))))))))))))
theorem oX11_has : zO yX11_has cX11_has 4 (some .int) 2 := ⟨zT_mem 602 (by decide +kernel) rfl, zT_mem 89 (by decide +kernel) rfl, by decide +kernel, by decide +kernel, by decide +kernel⟩
set_option maxHeartbeats 4000000 in
set_option maxRecDepth 100000 in
theorem cl_has (s0 : State) (D : va_G) (cB cI cJ cD : ClassId) (n : Nat) (x0 : (Nat → Option vDes)) (x1 : Int32) (x2 : Int32) (a0 : Nat) (x : Int32) (h : l_has n x0 x1 x2 = some x) {hi hm : zHp} {nx : Nat} {Q : Option Value → zHp → zHp → Nat → Prop} (ho0 : iLD cI cD hi hm a0 x0) (hQ0 : ∀ (hi' : zHp) (nx' : Nat), zX hi hi' → Q (some (.int x)) hi' hm nx') : zM s0 D (zty cB cI cJ cD) yX11_has cX11_has 4 (some .int) 3 66 0 0 [.ref a0, .int x1, .int x2] hi hm nx Q := by
  have hQ : ∀ r : Int32, x = r → ∀ (hi' : zHp) (nx' : Nat), zX hi hi' → Q (some (.int r)) hi' hm nx' := fun r hr => by subst hr; exact hQ0
  clear hQ0
  have hXX : zX hi hi := zX.rf
  refine zM_of (by decide +kernel) (Nat.le_of_ble_eq_true rfl) ?_
  unfold l_has at h
  refine zV_eq (lo2 := [(0, .ref a0), (1, .int x1), (2, .int x2)]) rfl rfl rfl rfl ?_
  refine zV_blk (pc' := 2) (lo' := [(0, .ref a0), (1, .int x1), (2, .int x2)]) (st' := [.int x1, .ref a0]) [.aload_n 0, .iload_n 1] (by decide +kernel) rfl ?_
  obtain ⟨v1, hv1, h⟩ := zbind h
  refine zV_designAt (idx := 105) (rest := []) v1 hv1 ho0 (zT_mem 603 (by decide +kernel) rfl) rfl (Nat.le_of_ble_eq_true rfl) ⟨by decide, by decide⟩ (by decide +kernel) (fun hx => ?_) (fun b2 z3 hx ho4 => ?_)
  · subst hx; replace h := zOm_none h
    refine zV_blk (pc' := 7) (lo' := [(3, .null), (0, .ref a0), (1, .int x1), (2, .int x2)]) (st' := [.null]) [.astore_n 3, .aload_n 3] (by decide +kernel) rfl ?_
    refine zV_ifnonnull (r := none) (tgt := 12) (off := 5) (by decide +kernel) (by decide) (fun _ q => by cases q) (fun _ => ?_)
    refine zV_blk (pc' := 11) (lo' := [(3, .null), (0, .ref a0), (1, .int x1), (2, .int x2)]) (st' := [.int (-1)]) [.iconst (-1)] (by decide +kernel) rfl ?_
    obtain rfl := Option.some.inj h
    exact zV_iret rfl (by decide +kernel) (hQ _ rfl _ _ hXX)
  · subst hx; replace h := zOm_some h
    refine zV_blk (pc' := 7) (lo' := [(3, .ref b2), (0, .ref a0), (1, .int x1), (2, .int x2)]) (st' := [.ref b2]) [.astore_n 3, .aload_n 3] (by decide +kernel) rfl ?_
    refine zV_ifnonnull (r := some b2) (tgt := 12) (off := 5) (by decide +kernel) (by decide) (fun _ _ => ?_) (fun q => by cases q)
    refine zV_blk (pc' := 13) (lo' := [(3, .ref b2), (0, .ref a0), (1, .int x1), (2, .int x2)]) (st' := [.int x2]) [.iload_n 2] (by decide +kernel) rfl ?_
    by_cases q5 : (x2 : Int32) = 0
    · replace h := zif_pos q5 h
      refine zV_tin (tgt := 64) (off := 51) (dflt := 124) (l1 := 0) (h1 := 8) (offs := #[51, 59, 67, 75, 84, 92, 100, 108, 116]) (len := 51) 0 q5 (by decide +kernel) (by decide +kernel) (by decide +kernel) (by decide +kernel) (by decide) ?_
      refine zV_blk (pc' := 65) (lo' := [(3, .ref b2), (0, .ref a0), (1, .int x1), (2, .int x2)]) (st' := [.ref b2]) [.aload_n 3] (by decide +kernel) rfl ?_
      obtain ⟨b6, b7, b8, hc9, hc10, hc11, hc12⟩ := ho4
      refine zV_get (ci := 0) (idx := 109) (k := 0) (N := 3) (fs := [.ref b6, .ref b7, .ref b8]) (v := .ref b6) (Or.inl hc9) rfl z_in0 (by decide) (zT_mem 564 (by decide +kernel) rfl) rfl (by decide +kernel) ?_
      obtain ⟨b13, hc14, hb15⟩ := hc10
      refine zV_get (ci := 3) (idx := 113) (k := 0) (N := 6) (fs := [.int z3.1.1, .int z3.1.2.1, .ref b13, .int z3.1.2.2.2.1, .int z3.1.2.2.2.2.1, .int z3.1.2.2.2.2.2]) (v := .int z3.1.1) (Or.inl hc14) rfl z_in3 (by decide) (zT_mem 534 (by decide +kernel) rfl) rfl (by decide +kernel) ?_
      obtain rfl := Option.some.inj h
      exact zV_iret rfl (by decide +kernel) (hQ _ rfl _ _ hXX)
    · replace h := zif_neg q5 h
      by_cases q16 : (x2 : Int32) = 1
      · replace h := zif_pos q16 h
        refine zV_tin (tgt := 72) (off := 59) (dflt := 124) (l1 := 0) (h1 := 8) (offs := #[51, 59, 67, 75, 84, 92, 100, 108, 116]) (len := 51) 1 q16 (by decide +kernel) (by decide +kernel) (by decide +kernel) (by decide +kernel) (by decide) ?_
        refine zV_blk (pc' := 73) (lo' := [(3, .ref b2), (0, .ref a0), (1, .int x1), (2, .int x2)]) (st' := [.ref b2]) [.aload_n 3] (by decide +kernel) rfl ?_
        obtain ⟨b17, b18, b19, hc20, hc21, hc22, hc23⟩ := ho4
        refine zV_get (ci := 0) (idx := 109) (k := 0) (N := 3) (fs := [.ref b17, .ref b18, .ref b19]) (v := .ref b17) (Or.inl hc20) rfl z_in0 (by decide) (zT_mem 564 (by decide +kernel) rfl) rfl (by decide +kernel) ?_
        obtain ⟨b24, hc25, hb26⟩ := hc21
        refine zV_get (ci := 3) (idx := 118) (k := 1) (N := 6) (fs := [.int z3.1.1, .int z3.1.2.1, .ref b24, .int z3.1.2.2.2.1, .int z3.1.2.2.2.2.1, .int z3.1.2.2.2.2.2]) (v := .int z3.1.2.1) (Or.inl hc25) rfl z_in3 (by decide) (zT_mem 536 (by decide +kernel) rfl) rfl (by decide +kernel) ?_
        obtain rfl := Option.some.inj h
        exact zV_iret rfl (by decide +kernel) (hQ _ rfl _ _ hXX)
      · replace h := zif_neg q16 h
        by_cases q27 : (x2 : Int32) = 2
        · replace h := zif_pos q27 h
          refine zV_tin (tgt := 80) (off := 67) (dflt := 124) (l1 := 0) (h1 := 8) (offs := #[51, 59, 67, 75, 84, 92, 100, 108, 116]) (len := 51) 2 q27 (by decide +kernel) (by decide +kernel) (by decide +kernel) (by decide +kernel) (by decide) ?_
          refine zV_blk (pc' := 81) (lo' := [(3, .ref b2), (0, .ref a0), (1, .int x1), (2, .int x2)]) (st' := [.ref b2]) [.aload_n 3] (by decide +kernel) rfl ?_
          obtain ⟨b28, b29, b30, hc31, hc32, hc33, hc34⟩ := ho4
          refine zV_get (ci := 0) (idx := 95) (k := 1) (N := 3) (fs := [.ref b28, .ref b29, .ref b30]) (v := .ref b29) (Or.inl hc31) rfl z_in0 (by decide) (zT_mem 566 (by decide +kernel) rfl) rfl (by decide +kernel) ?_
          obtain ⟨v35, hv35, h⟩ := zbind h
          refine dc_sort s0 D cB cI cJ cD (idx := 121) z3.2.1 b29 v35 hv35 hc33 (zT_mem 607 (by decide +kernel) rfl) (rest := []) rfl (Nat.le_of_ble_eq_true rfl) ⟨by decide, by decide⟩ (by decide +kernel) ?_
          refine zV_eq (st2 := [.int v35]) rfl rfl rfl rfl ?_
          obtain rfl := Option.some.inj h
          exact zV_iret rfl (by decide +kernel) (hQ _ rfl _ _ hXX)
        · replace h := zif_neg q27 h
          by_cases q36 : (x2 : Int32) = 3
          · replace h := zif_pos q36 h
            refine zV_tin (tgt := 88) (off := 75) (dflt := 124) (l1 := 0) (h1 := 8) (offs := #[51, 59, 67, 75, 84, 92, 100, 108, 116]) (len := 51) 3 q36 (by decide +kernel) (by decide +kernel) (by decide +kernel) (by decide +kernel) (by decide) ?_
            refine zV_blk (pc' := 89) (lo' := [(3, .ref b2), (0, .ref a0), (1, .int x1), (2, .int x2)]) (st' := [.ref b2]) [.aload_n 3] (by decide +kernel) rfl ?_
            obtain ⟨b37, b38, b39, hc40, hc41, hc42, hc43⟩ := ho4
            refine zV_get (ci := 0) (idx := 109) (k := 0) (N := 3) (fs := [.ref b37, .ref b38, .ref b39]) (v := .ref b37) (Or.inl hc40) rfl z_in0 (by decide) (zT_mem 564 (by decide +kernel) rfl) rfl (by decide +kernel) ?_
            obtain ⟨b44, hc45, hb46⟩ := hc41
            refine zV_get (ci := 3) (idx := 124) (k := 2) (N := 6) (fs := [.int z3.1.1, .int z3.1.2.1, .ref b44, .int z3.1.2.2.2.1, .int z3.1.2.2.2.2.1, .int z3.1.2.2.2.2.2]) (v := .ref b44) (Or.inl hc45) rfl z_in3 (by decide) (zT_mem 539 (by decide +kernel) rfl) rfl (by decide +kernel) ?_
            refine zV_alen 1 (Or.inl hb46) rfl (by decide +kernel) ?_
            obtain rfl := Option.some.inj h
            exact zV_iret rfl (by decide +kernel) (hQ _ rfl _ _ hXX)
          · replace h := zif_neg q36 h
            by_cases q47 : (x2 : Int32) = 4
            · replace h := zif_pos q47 h
              refine zV_tin (tgt := 97) (off := 84) (dflt := 124) (l1 := 0) (h1 := 8) (offs := #[51, 59, 67, 75, 84, 92, 100, 108, 116]) (len := 51) 4 q47 (by decide +kernel) (by decide +kernel) (by decide +kernel) (by decide +kernel) (by decide) ?_
              refine zV_blk (pc' := 98) (lo' := [(3, .ref b2), (0, .ref a0), (1, .int x1), (2, .int x2)]) (st' := [.ref b2]) [.aload_n 3] (by decide +kernel) rfl ?_
              obtain ⟨b48, b49, b50, hc51, hc52, hc53, hc54⟩ := ho4
              refine zV_get (ci := 0) (idx := 109) (k := 0) (N := 3) (fs := [.ref b48, .ref b49, .ref b50]) (v := .ref b48) (Or.inl hc51) rfl z_in0 (by decide) (zT_mem 564 (by decide +kernel) rfl) rfl (by decide +kernel) ?_
              obtain ⟨b55, hc56, hb57⟩ := hc52
              refine zV_get (ci := 3) (idx := 127) (k := 3) (N := 6) (fs := [.int z3.1.1, .int z3.1.2.1, .ref b55, .int z3.1.2.2.2.1, .int z3.1.2.2.2.2.1, .int z3.1.2.2.2.2.2]) (v := .int z3.1.2.2.2.1) (Or.inl hc56) rfl z_in3 (by decide) (zT_mem 541 (by decide +kernel) rfl) rfl (by decide +kernel) ?_
              obtain rfl := Option.some.inj h
              exact zV_iret rfl (by decide +kernel) (hQ _ rfl _ _ hXX)
            · replace h := zif_neg q47 h
              by_cases q58 : (x2 : Int32) = 5
              · replace h := zif_pos q58 h
                refine zV_tin (tgt := 105) (off := 92) (dflt := 124) (l1 := 0) (h1 := 8) (offs := #[51, 59, 67, 75, 84, 92, 100, 108, 116]) (len := 51) 5 q58 (by decide +kernel) (by decide +kernel) (by decide +kernel) (by decide +kernel) (by decide) ?_
                refine zV_blk (pc' := 106) (lo' := [(3, .ref b2), (0, .ref a0), (1, .int x1), (2, .int x2)]) (st' := [.ref b2]) [.aload_n 3] (by decide +kernel) rfl ?_
                obtain ⟨b59, b60, b61, hc62, hc63, hc64, hc65⟩ := ho4
                refine zV_get (ci := 0) (idx := 109) (k := 0) (N := 3) (fs := [.ref b59, .ref b60, .ref b61]) (v := .ref b59) (Or.inl hc62) rfl z_in0 (by decide) (zT_mem 564 (by decide +kernel) rfl) rfl (by decide +kernel) ?_
                obtain ⟨b66, hc67, hb68⟩ := hc63
                refine zV_get (ci := 3) (idx := 130) (k := 4) (N := 6) (fs := [.int z3.1.1, .int z3.1.2.1, .ref b66, .int z3.1.2.2.2.1, .int z3.1.2.2.2.2.1, .int z3.1.2.2.2.2.2]) (v := .int z3.1.2.2.2.2.1) (Or.inl hc67) rfl z_in3 (by decide) (zT_mem 543 (by decide +kernel) rfl) rfl (by decide +kernel) ?_
                obtain rfl := Option.some.inj h
                exact zV_iret rfl (by decide +kernel) (hQ _ rfl _ _ hXX)
              · replace h := zif_neg q58 h
                by_cases q69 : (x2 : Int32) = 6
                · replace h := zif_pos q69 h
                  refine zV_tin (tgt := 113) (off := 100) (dflt := 124) (l1 := 0) (h1 := 8) (offs := #[51, 59, 67, 75, 84, 92, 100, 108, 116]) (len := 51) 6 q69 (by decide +kernel) (by decide +kernel) (by decide +kernel) (by decide +kernel) (by decide) ?_
                  refine zV_blk (pc' := 114) (lo' := [(3, .ref b2), (0, .ref a0), (1, .int x1), (2, .int x2)]) (st' := [.ref b2]) [.aload_n 3] (by decide +kernel) rfl ?_
                  obtain ⟨b70, b71, b72, hc73, hc74, hc75, hc76⟩ := ho4
                  refine zV_get (ci := 0) (idx := 109) (k := 0) (N := 3) (fs := [.ref b70, .ref b71, .ref b72]) (v := .ref b70) (Or.inl hc73) rfl z_in0 (by decide) (zT_mem 564 (by decide +kernel) rfl) rfl (by decide +kernel) ?_
                  obtain ⟨b77, hc78, hb79⟩ := hc74
                  refine zV_get (ci := 3) (idx := 133) (k := 5) (N := 6) (fs := [.int z3.1.1, .int z3.1.2.1, .ref b77, .int z3.1.2.2.2.1, .int z3.1.2.2.2.2.1, .int z3.1.2.2.2.2.2]) (v := .int z3.1.2.2.2.2.2) (Or.inl hc78) rfl z_in3 (by decide) (zT_mem 545 (by decide +kernel) rfl) rfl (by decide +kernel) ?_
                  obtain rfl := Option.some.inj h
                  exact zV_iret rfl (by decide +kernel) (hQ _ rfl _ _ hXX)
                · replace h := zif_neg q69 h
                  by_cases q80 : (x2 : Int32) = 7
                  · replace h := zif_pos q80 h
                    refine zV_tin (tgt := 121) (off := 108) (dflt := 124) (l1 := 0) (h1 := 8) (offs := #[51, 59, 67, 75, 84, 92, 100, 108, 116]) (len := 51) 7 q80 (by decide +kernel) (by decide +kernel) (by decide +kernel) (by decide +kernel) (by decide) ?_
                    refine zV_blk (pc' := 122) (lo' := [(3, .ref b2), (0, .ref a0), (1, .int x1), (2, .int x2)]) (st' := [.ref b2]) [.aload_n 3] (by decide +kernel) rfl ?_
                    obtain ⟨b81, b82, b83, hc84, hc85, hc86, hc87⟩ := ho4
                    refine zV_get (ci := 0) (idx := 95) (k := 1) (N := 3) (fs := [.ref b81, .ref b82, .ref b83]) (v := .ref b82) (Or.inl hc84) rfl z_in0 (by decide) (zT_mem 566 (by decide +kernel) rfl) rfl (by decide +kernel) ?_
                    obtain ⟨v88, hv88, h⟩ := zbind h
                    refine dc_cycle s0 D cB cI cJ cD (idx := 99) z3.2.1 b82 v88 hv88 hc86 (zT_mem 581 (by decide +kernel) rfl) (rest := []) rfl (Nat.le_of_ble_eq_true rfl) ⟨by decide, by decide⟩ (by decide +kernel) ?_
                    refine zV_eq (st2 := [.int v88]) rfl rfl rfl rfl ?_
                    obtain rfl := Option.some.inj h
                    exact zV_iret rfl (by decide +kernel) (hQ _ rfl _ _ hXX)
                  · replace h := zif_neg q80 h
                    by_cases q89 : (x2 : Int32) = 8
                    · replace h := zif_pos q89 h
                      refine zV_tin (tgt := 129) (off := 116) (dflt := 124) (l1 := 0) (h1 := 8) (offs := #[51, 59, 67, 75, 84, 92, 100, 108, 116]) (len := 51) 8 q89 (by decide +kernel) (by decide +kernel) (by decide +kernel) (by decide +kernel) (by decide) ?_
                      refine zV_blk (pc' := 130) (lo' := [(3, .ref b2), (0, .ref a0), (1, .int x1), (2, .int x2)]) (st' := [.ref b2]) [.aload_n 3] (by decide +kernel) rfl ?_
                      obtain ⟨b90, b91, b92, hc93, hc94, hc95, hc96⟩ := ho4
                      refine zV_get (ci := 0) (idx := 95) (k := 1) (N := 3) (fs := [.ref b90, .ref b91, .ref b92]) (v := .ref b91) (Or.inl hc93) rfl z_in0 (by decide) (zT_mem 566 (by decide +kernel) rfl) rfl (by decide +kernel) ?_
                      obtain ⟨v97, hv97, h⟩ := zbind h
                      refine dc_leapsInCycle s0 D cB cI cJ cD (idx := 136) n z3.2.1 b91 v97 hv97 hc95 (zT_mem 621 (by decide +kernel) rfl) (rest := []) rfl (Nat.le_of_ble_eq_true rfl) ⟨by decide, by decide⟩ (by decide +kernel) ?_
                      refine zV_eq (st2 := [.int v97]) rfl rfl rfl rfl ?_
                      obtain rfl := Option.some.inj h
                      exact zV_iret rfl (by decide +kernel) (hQ _ rfl _ _ hXX)
                    · replace h := zif_neg q89 h
                      refine zV_tout (tgt := 137) (dflt := 124) (l1 := 0) (h1 := 8) (offs := #[51, 59, 67, 75, 84, 92, 100, 108, 116]) (len := 51) (by have nq5 := zne 0 0 (by decide +kernel) q5; have nq16 := zne 1 1 (by decide +kernel) q16; have nq27 := zne 2 2 (by decide +kernel) q27; have nq36 := zne 3 3 (by decide +kernel) q36; have nq47 := zne 4 4 (by decide +kernel) q47; have nq58 := zne 5 5 (by decide +kernel) q58; have nq69 := zne 6 6 (by decide +kernel) q69; have nq80 := zne 7 7 (by decide +kernel) q80; have nq89 := zne 8 8 (by decide +kernel) q89; omega) (by decide +kernel) (by decide) ?_
                      refine zV_blk (pc' := 138) (lo' := [(3, .ref b2), (0, .ref a0), (1, .int x1), (2, .int x2)]) (st' := [.ref b2]) [.aload_n 3] (by decide +kernel) rfl ?_
                      obtain ⟨b98, b99, b100, hc101, hc102, hc103, hc104⟩ := ho4
                      refine zV_get (ci := 0) (idx := 95) (k := 1) (N := 3) (fs := [.ref b98, .ref b99, .ref b100]) (v := .ref b99) (Or.inl hc101) rfl z_in0 (by decide) (zT_mem 566 (by decide +kernel) rfl) rfl (by decide +kernel) ?_
                      refine zV_blk (pc' := 142) (lo' := [(3, .ref b2), (0, .ref a0), (1, .int x1), (2, .int x2)]) (st' := [.int x2, .ref b99]) [.iload_n 2] (by decide +kernel) rfl ?_
                      obtain ⟨v105, hv105, h⟩ := zbind h
                      refine zV_roS (idx := 139) (rest := []) (fun Q2 hQ2 => ck_evenNumber s0 D cB cI cJ cD z3.2.1 x2 b99 v105 hv105 hc103 hQ2) oX11_evenNumber (zT_mem 652 (by decide +kernel) rfl) (zT_mem 653 (by decide +kernel) rfl) rfl rfl (Nat.le_of_ble_eq_true rfl) ⟨by decide, by decide⟩ (by decide +kernel) ?_
                      refine zV_eq (st2 := [.int v105]) rfl rfl rfl rfl ?_
                      obtain rfl := Option.some.inj h
                      exact zV_iret rfl (by decide +kernel) (hQ _ rfl _ _ hXX)

def l_month (x0 : (Nat → Option vDes)) (x1 : Int32) (x2 : Int32) (x3 : Int32) : Option (Int32) := (k_designAt x0 x1).bind (fun v1 => zOm v1 (some (-1)) (fun z3 => (k_hasMonth z3.1 x2).bind (fun v12 => (if v12 = true then (k_monthDays z3.1 x2 x3).bind (fun v16 => some v16) else some (-1)))))
theorem oX11_month : zO yX11_month cX11_month 5 (some .int) 3 := ⟨zT_mem 667 (by decide +kernel) rfl, zT_mem 89 (by decide +kernel) rfl, by decide +kernel, by decide +kernel, by decide +kernel⟩
set_option maxHeartbeats 4000000 in
set_option maxRecDepth 100000 in
theorem cl_month (s0 : State) (D : va_G) (cB cI cJ cD : ClassId) (x0 : (Nat → Option vDes)) (x1 : Int32) (x2 : Int32) (x3 : Int32) (a0 : Nat) (x : Int32) (h : l_month x0 x1 x2 x3 = some x) {hi hm : zHp} {nx : Nat} {Q : Option Value → zHp → zHp → Nat → Prop} (ho0 : iLD cI cD hi hm a0 x0) (hQ0 : ∀ (hi' : zHp) (nx' : Nat), zX hi hi' → Q (some (.int x)) hi' hm nx') : zM s0 D (zty cB cI cJ cD) yX11_month cX11_month 5 (some .int) 2 43 0 0 [.ref a0, .int x1, .int x2, .int x3] hi hm nx Q := by
  have hQ : ∀ r : Int32, x = r → ∀ (hi' : zHp) (nx' : Nat), zX hi hi' → Q (some (.int r)) hi' hm nx' := fun r hr => by subst hr; exact hQ0
  clear hQ0
  have hXX : zX hi hi := zX.rf
  refine zM_of (by decide +kernel) (Nat.le_of_ble_eq_true rfl) ?_
  unfold l_month at h
  refine zV_eq (lo2 := [(0, .ref a0), (1, .int x1), (2, .int x2), (3, .int x3)]) rfl rfl rfl rfl ?_
  refine zV_blk (pc' := 2) (lo' := [(0, .ref a0), (1, .int x1), (2, .int x2), (3, .int x3)]) (st' := [.int x1, .ref a0]) [.aload_n 0, .iload_n 1] (by decide +kernel) rfl ?_
  obtain ⟨v1, hv1, h⟩ := zbind h
  refine zV_designAt (idx := 105) (rest := []) v1 hv1 ho0 (zT_mem 603 (by decide +kernel) rfl) rfl (Nat.le_of_ble_eq_true rfl) ⟨by decide, by decide⟩ (by decide +kernel) (fun hx => ?_) (fun b2 z3 hx ho4 => ?_)
  · subst hx; replace h := zOm_none h
    refine zV_blk (pc' := 9) (lo' := [(4, .null), (0, .ref a0), (1, .int x1), (2, .int x2), (3, .int x3)]) (st' := [.null]) [.astore 4, .aload 4] (by decide +kernel) rfl ?_
    refine zV_ifnull (r := none) (tgt := 24) (off := 15) (by decide +kernel) (by decide) (fun _ => ?_) (fun _ q => by cases q)
    refine zV_blk (pc' := 25) (lo' := [(4, .null), (0, .ref a0), (1, .int x1), (2, .int x2), (3, .int x3)]) (st' := [.int (-1)]) [.iconst (-1)] (by decide +kernel) rfl ?_
    obtain rfl := Option.some.inj h
    exact zV_iret rfl (by decide +kernel) (hQ _ rfl _ _ hXX)
  · subst hx; replace h := zOm_some h
    refine zV_blk (pc' := 9) (lo' := [(4, .ref b2), (0, .ref a0), (1, .int x1), (2, .int x2), (3, .int x3)]) (st' := [.ref b2]) [.astore 4, .aload 4] (by decide +kernel) rfl ?_
    refine zV_ifnull (r := some b2) (tgt := 24) (off := 15) (by decide +kernel) (by decide) (fun q => by cases q) (fun _ _ => ?_)
    refine zV_blk (pc' := 14) (lo' := [(4, .ref b2), (0, .ref a0), (1, .int x1), (2, .int x2), (3, .int x3)]) (st' := [.ref b2]) [.aload 4] (by decide +kernel) rfl ?_
    obtain ⟨b5, b6, b7, hc8, hc9, hc10, hc11⟩ := ho4
    refine zV_get (ci := 0) (idx := 109) (k := 0) (N := 3) (fs := [.ref b5, .ref b6, .ref b7]) (v := .ref b5) (Or.inl hc8) rfl z_in0 (by decide) (zT_mem 564 (by decide +kernel) rfl) rfl (by decide +kernel) ?_
    refine zV_blk (pc' := 18) (lo' := [(4, .ref b2), (0, .ref a0), (1, .int x1), (2, .int x2), (3, .int x3)]) (st' := [.int x2, .ref b5]) [.iload_n 2] (by decide +kernel) rfl ?_
    obtain ⟨v12, hv12, h⟩ := zbind h
    obtain ⟨b13, hc14, hb15⟩ := hc9
    refine zV_roV (idx := 157) (rest := []) (fs := [.int z3.1.1, .int z3.1.2.1, .ref b13, .int z3.1.2.2.2.1, .int z3.1.2.2.2.2.1, .int z3.1.2.2.2.2.2]) (ci := 3) (fun Q2 hQ2 => ck_hasMonth s0 D cB cI cJ cD z3.1 x2 b5 v12 hv12 ⟨b13, hc14, hb15⟩ hQ2) oX3_hasMonth (Or.inl hc14) rfl (zT_mem 668 (by decide +kernel) rfl) (zT_mem 669 (by decide +kernel) rfl) (zT_mem 670 (by decide +kernel) rfl) rfl rfl (Nat.le_of_ble_eq_true rfl) ⟨by decide, by decide⟩ (by decide +kernel) ?_
    refine zV_eq (st2 := [.int (zb v12)]) rfl rfl rfl rfl ?_
    refine zV_bif_ne (tgt := 26) (off := 5) (by decide +kernel) (by decide) (fun q => ?_) (fun q => ?_)
    · replace h := zif_pos q h
      clear q
      refine zV_blk (pc' := 28) (lo' := [(4, .ref b2), (0, .ref a0), (1, .int x1), (2, .int x2), (3, .int x3)]) (st' := [.ref b2]) [.aload 4] (by decide +kernel) rfl ?_
      refine zV_get (ci := 0) (idx := 109) (k := 0) (N := 3) (fs := [.ref b5, .ref b6, .ref b7]) (v := .ref b5) (Or.inl hc8) rfl z_in0 (by decide) (zT_mem 564 (by decide +kernel) rfl) rfl (by decide +kernel) ?_
      refine zV_blk (pc' := 33) (lo' := [(4, .ref b2), (0, .ref a0), (1, .int x1), (2, .int x2), (3, .int x3)]) (st' := [.int x3, .int x2, .ref b5]) [.iload_n 2, .iload_n 3] (by decide +kernel) rfl ?_
      obtain ⟨v16, hv16, h⟩ := zbind h
      refine zV_roV (idx := 160) (rest := []) (fs := [.int z3.1.1, .int z3.1.2.1, .ref b13, .int z3.1.2.2.2.1, .int z3.1.2.2.2.2.1, .int z3.1.2.2.2.2.2]) (ci := 3) (fun Q2 hQ2 => ck_monthDays s0 D cB cI cJ cD z3.1 x2 x3 b5 v16 hv16 ⟨b13, hc14, hb15⟩ hQ2) oX3_monthDays (Or.inl hc14) rfl (zT_mem 672 (by decide +kernel) rfl) (zT_mem 673 (by decide +kernel) rfl) (zT_mem 674 (by decide +kernel) rfl) rfl rfl (Nat.le_of_ble_eq_true rfl) ⟨by decide, by decide⟩ (by decide +kernel) ?_
      refine zV_eq (st2 := [.int v16]) rfl rfl rfl rfl ?_
      obtain rfl := Option.some.inj h
      exact zV_iret rfl (by decide +kernel) (hQ _ rfl _ _ hXX)
    · replace h := zif_neg q h
      clear q
      refine zV_blk (pc' := 25) (lo' := [(4, .ref b2), (0, .ref a0), (1, .int x1), (2, .int x2), (3, .int x3)]) (st' := [.int (-1)]) [.iconst (-1)] (by decide +kernel) rfl ?_
      obtain rfl := Option.some.inj h
      exact zV_iret rfl (by decide +kernel) (hQ _ rfl _ _ hXX)

def l_mean (n : Nat) (x0 : (Nat → Option vDes)) (x1 : Int32) (x2 : Int32) (x3 : Int32) : Option (Int64) := (k_designAt x0 x1).bind (fun v1 => zOm v1 (some (-1000000000000000)) (fun z3 => (if (x2 : Int32) = (0 : Int32) then (k_meanYear n z3).bind (fun v5 => (k_tellPart v5 x3).bind (fun v16 => some v16)) else (k_length n z3.2.2).bind (fun v24 => (k_tellPart v24 x3).bind (fun v28 => some v28)))))
theorem oX11_mean : zO yX11_mean cX11_mean 6 (some .long) 3 := ⟨zT_mem 680 (by decide +kernel) rfl, zT_mem 89 (by decide +kernel) rfl, by decide +kernel, by decide +kernel, by decide +kernel⟩
set_option maxHeartbeats 4000000 in
set_option maxRecDepth 100000 in
theorem cl_mean (s0 : State) (D : va_G) (cB cI cJ cD : ClassId) (n : Nat) (x0 : (Nat → Option vDes)) (x1 : Int32) (x2 : Int32) (x3 : Int32) (a0 : Nat) (x : Int64) (h : l_mean n x0 x1 x2 x3 = some x) {hi hm : zHp} {nx : Nat} {Q : Option Value → zHp → zHp → Nat → Prop} (ho0 : iLD cI cD hi hm a0 x0) (hQ0 : ∀ (hi' : zHp) (nx' : Nat), zX hi hi' → Q (some (.long x)) hi' hm nx') : zM s0 D (zty cB cI cJ cD) yX11_mean cX11_mean 6 (some .long) 4 99 1 2 [.ref a0, .int x1, .int x2, .int x3] hi hm nx Q := by
  have hQ : ∀ r : Int64, x = r → ∀ (hi' : zHp) (nx' : Nat), zX hi hi' → Q (some (.long r)) hi' hm nx' := fun r hr => by subst hr; exact hQ0
  clear hQ0
  have hXX : zX hi hi := zX.rf
  refine zM_of (by decide +kernel) (Nat.le_of_ble_eq_true rfl) ?_
  unfold l_mean at h
  refine zV_eq (lo2 := [(0, .ref a0), (1, .int x1), (2, .int x2), (3, .int x3)]) rfl rfl rfl rfl ?_
  refine zV_blk (pc' := 2) (lo' := [(0, .ref a0), (1, .int x1), (2, .int x2), (3, .int x3)]) (st' := [.int x1, .ref a0]) [.aload_n 0, .iload_n 1] (by decide +kernel) rfl ?_
  obtain ⟨v1, hv1, h⟩ := zbind h
  refine zV_designAt (idx := 105) (rest := []) v1 hv1 ho0 (zT_mem 603 (by decide +kernel) rfl) rfl (Nat.le_of_ble_eq_true rfl) ⟨by decide, by decide⟩ (by decide +kernel) (fun hx => ?_) (fun b2 z3 hx ho4 => ?_)
  · subst hx; replace h := zOm_none h
    refine zV_blk (pc' := 9) (lo' := [(4, .null), (0, .ref a0), (1, .int x1), (2, .int x2), (3, .int x3)]) (st' := [.null]) [.astore 4, .aload 4] (by decide +kernel) rfl ?_
    refine zV_ifnonnull (r := none) (tgt := 16) (off := 7) (by decide +kernel) (by decide) (fun _ q => by cases q) (fun _ => ?_)
    refine zV_less (mc' := 0) (ms' := 0) (by decide) (by decide) ?_
    refine zV_ldc2 (idx := 164) (v := (-1000000000000000)) (zT_mem 681 (by decide +kernel) rfl) (by decide +kernel) ?_
    obtain rfl := Option.some.inj h
    exact zV_lret rfl (by decide +kernel) (hQ _ rfl _ _ hXX)
  · subst hx; replace h := zOm_some h
    refine zV_blk (pc' := 9) (lo' := [(4, .ref b2), (0, .ref a0), (1, .int x1), (2, .int x2), (3, .int x3)]) (st' := [.ref b2]) [.astore 4, .aload 4] (by decide +kernel) rfl ?_
    refine zV_ifnonnull (r := some b2) (tgt := 16) (off := 7) (by decide +kernel) (by decide) (fun _ _ => ?_) (fun q => by cases q)
    refine zV_blk (pc' := 17) (lo' := [(4, .ref b2), (0, .ref a0), (1, .int x1), (2, .int x2), (3, .int x3)]) (st' := [.int x2]) [.iload_n 2] (by decide +kernel) rfl ?_
    refine zV_if_eq (tgt := 31) (off := 14) (by decide +kernel) (by decide) (fun q => ?_) (fun q => ?_)
    · replace h := zif_pos q h
      clear q
      refine zV_blk (pc' := 33) (lo' := [(4, .ref b2), (0, .ref a0), (1, .int x1), (2, .int x2), (3, .int x3)]) (st' := [.ref b2]) [.aload 4] (by decide +kernel) rfl ?_
      obtain ⟨v5, hv5, h⟩ := zbind h
      obtain ⟨b6, b7, b8, hc9, hc10, hc11, hc12⟩ := ho4
      refine zV_alV (mc := 0) (ms := 0) (fun hi' v' => ∃ a' : Nat, v' = some (.ref a') ∧ iFra hi' a' v5) (idx := 176) (rest := []) (fs := [.ref b6, .ref b7, .ref b8]) (ci := 0) (fun Q2 hQ2 => ck_meanYear s0 D cB cI cJ cD n z3 b2 v5 hv5 ⟨b6, b7, b8, hc9, hc10, hc11, hc12⟩ (fun a' hi' nx' hX hr => hQ2 _ _ _ hX ⟨a', rfl, hr⟩)) oX0_meanYear (Or.inl hc9) rfl (zT_mem 713 (by decide +kernel) rfl) (zT_mem 714 (by decide +kernel) rfl) (zT_mem 715 (by decide +kernel) rfl) rfl rfl (Nat.le_of_ble_eq_true rfl) ⟨by decide, by decide⟩ (by decide +kernel) ?_
      rintro _ hi2 nx15 hX ⟨b13, rfl, ho14⟩
      replace hc9 := hX _ _ hc9
      replace hc10 := hc10.mono hX
      replace hc11 := hc11.mono hX
      replace hc12 := hc12.mono hX
      replace ho0 := ho0.mono hX
      replace hXX := hXX.tr hX; clear hX
      refine zV_eq (st2 := [.ref b13]) rfl rfl rfl rfl ?_
      refine zV_blk (pc' := 41) (lo' := [(5, .ref b13), (4, .ref b2), (0, .ref a0), (1, .int x1), (2, .int x2), (3, .int x3)]) (st' := [.int x3, .ref b13]) [.astore 5, .aload 5, .iload_n 3] (by decide +kernel) rfl ?_
      obtain ⟨v16, hv16, h⟩ := zbind h
      refine zV_roV (idx := 179) (rest := []) (fs := [.long v5.1, .long v5.2]) (ci := 2) (fun Q2 hQ2 => ck_tellPart s0 D cB cI cJ cD v5 x3 b13 v16 hv16 ho14 hQ2) oX2_tellPart (Or.inl ho14) rfl (zT_mem 724 (by decide +kernel) rfl) (zT_mem 725 (by decide +kernel) rfl) (zT_mem 726 (by decide +kernel) rfl) rfl rfl (Nat.le_of_ble_eq_true rfl) ⟨by decide, by decide⟩ (by decide +kernel) ?_
      refine zV_eq (st2 := [.long v16]) rfl rfl rfl rfl ?_
      obtain rfl := Option.some.inj h
      exact zV_lret rfl (by decide +kernel) (hQ _ rfl _ _ hXX)
    · replace h := zif_neg q h
      clear q
      refine zV_blk (pc' := 22) (lo' := [(4, .ref b2), (0, .ref a0), (1, .int x1), (2, .int x2), (3, .int x3)]) (st' := [.ref b2]) [.aload 4] (by decide +kernel) rfl ?_
      obtain ⟨b17, b18, b19, hc20, hc21, hc22, hc23⟩ := ho4
      refine zV_get (ci := 0) (idx := 166) (k := 2) (N := 3) (fs := [.ref b17, .ref b18, .ref b19]) (v := .ref b19) (Or.inl hc20) rfl z_in0 (by decide) (zT_mem 568 (by decide +kernel) rfl) rfl (by decide +kernel) ?_
      obtain ⟨v24, hv24, h⟩ := zbind h
      refine zV_alV (mc := 0) (ms := 0) (fun hi' v' => ∃ a' : Nat, v' = some (.ref a') ∧ iFra hi' a' v24) (idx := 170) (rest := []) (fs := [.int z3.2.2.1, .int z3.2.2.2.1, .int z3.2.2.2.2.1, .int z3.2.2.2.2.2.1, .int z3.2.2.2.2.2.2]) (ci := 10) (fun Q2 hQ2 => ck_length s0 D cB cI cJ cD n z3.2.2 b19 v24 hv24 hc23 (fun a' hi' nx' hX hr => hQ2 _ _ _ hX ⟨a', rfl, hr⟩)) oX10_length (Or.inl hc23) rfl (zT_mem 682 (by decide +kernel) rfl) (zT_mem 683 (by decide +kernel) rfl) (zT_mem 684 (by decide +kernel) rfl) rfl rfl (Nat.le_of_ble_eq_true rfl) ⟨by decide, by decide⟩ (by decide +kernel) ?_
      rintro _ hi2 nx27 hX ⟨b25, rfl, ho26⟩
      replace hc20 := hX _ _ hc20
      replace hc21 := hc21.mono hX
      replace hc22 := hc22.mono hX
      replace hc23 := hX _ _ hc23
      replace ho0 := ho0.mono hX
      replace hXX := hXX.tr hX; clear hX
      refine zV_eq (st2 := [.ref b25]) rfl rfl rfl rfl ?_
      refine zV_goto (tgt := 36) (off := 8) (by decide +kernel) (by decide) ?_
      refine zV_blk (pc' := 41) (lo' := [(5, .ref b25), (4, .ref b2), (0, .ref a0), (1, .int x1), (2, .int x2), (3, .int x3)]) (st' := [.int x3, .ref b25]) [.astore 5, .aload 5, .iload_n 3] (by decide +kernel) rfl ?_
      obtain ⟨v28, hv28, h⟩ := zbind h
      refine zV_roV (idx := 179) (rest := []) (fs := [.long v24.1, .long v24.2]) (ci := 2) (fun Q2 hQ2 => ck_tellPart s0 D cB cI cJ cD v24 x3 b25 v28 hv28 ho26 hQ2) oX2_tellPart (Or.inl ho26) rfl (zT_mem 724 (by decide +kernel) rfl) (zT_mem 725 (by decide +kernel) rfl) (zT_mem 726 (by decide +kernel) rfl) rfl rfl (Nat.le_of_ble_eq_true rfl) ⟨by decide, by decide⟩ (by decide +kernel) ?_
      refine zV_eq (st2 := [.long v28]) rfl rfl rfl rfl ?_
      obtain rfl := Option.some.inj h
      exact zV_lret rfl (by decide +kernel) (hQ _ rfl _ _ hXX)

