def l_within_86 (n : Nat) (x2 : Int32) (x3 : Int32) (x4 : Int32) (x5 : vDes) (x6 : Int64) (x8 : Int64) (s : Int32) : Option ((Int32) ⊕ (Int64)) := (if (1000 : Int32) < (s : Int32) then some (.inr (-1000000000000000)) else (k_nearestK (x6 * (s : Int32).toInt64) x8 s).bind (fun v1 => (j_abs ((v1 * x8) - (x6 * (s : Int32).toInt64))).bind (fun v2 => (if ((((x3 : Int32).toInt64 * (s : Int32).toInt64) * (x5.2.2.2.2.1 : Int32).toInt64) : Int64) < ((v2 * (x2 : Int32).toInt64) : Int64) then some (.inl (s + 1)) else (if (x4 : Int32) = (0 : Int32) then some (.inr (s : Int32).toInt64) else some (.inr v1))))))
set_option maxHeartbeats 4000000 in
set_option maxRecDepth 100000 in
theorem cl_within_86 (s0 : State) (D : va_G) (cB cI cJ cD : ClassId) (n : Nat) (x2 : Int32) (x3 : Int32) (x4 : Int32) (x5 : vDes) (x6 : Int64) (x8 : Int64) (a5 : Nat) (s : Int32) {x : (Int32) ⊕ (Int64)} {hi0 hi hm : zHp} {nx : Nat} {Q : Option Value → zHp → zHp → Nat → Prop} (ho5 : iDes cI hi a5 x5) (hXX : zX hi0 hi) (h : l_within_86 n x2 x3 x4 x5 x6 x8 s = some x) (hL86 : ∀ s : Int32, x = (.inl s) → ∀ (hi' : zHp) (nx' : Nat), zX hi0 hi' → hi = hi' → zV s0 D (zty cB cI cJ cD) yX11_within cX11_within 15 (some .long) 2 53 0 0 86 [(2, .int x2), (3, .int x3), (4, .int x4), (5, .ref a5), (6, .long x6), (8, .long x8), (10, .int s)] [] hi' hm nx' Q) (hQ : ∀ r : Int64, x = (.inr r) → ∀ (hi' : zHp) (nx' : Nat), zX hi0 hi' → Q (some (.long r)) hi' hm nx') : zV s0 D (zty cB cI cJ cD) yX11_within cX11_within 15 (some .long) 2 53 0 0 86 [(2, .int x2), (3, .int x3), (4, .int x4), (5, .ref a5), (6, .long x6), (8, .long x8), (10, .int s)] [] hi hm nx Q := by
  unfold l_within_86 at h
  refine zV_blk (pc' := 91) (lo' := [(2, .int x2), (3, .int x3), (4, .int x4), (5, .ref a5), (6, .long x6), (8, .long x8), (10, .int s)]) (st' := [.int 1000, .int s]) [.iload 10, .sipush 1000] (by decide +kernel) rfl ?_
  refine zV_icmp_gt (tgt := 171) (off := 80) (by decide +kernel) (by decide) (fun q => ?_) (fun q => ?_)
  · replace h := zif_pos q h
    clear q
    refine zV_ldc2 (idx := 164) (v := (-1000000000000000)) (zT_mem 681 (by decide +kernel) rfl) (by decide +kernel) ?_
    obtain rfl := Option.some.inj h
    exact zV_lret rfl (by decide +kernel) (hQ _ rfl _ _ hXX)
  · replace h := zif_neg q h
    clear q
    refine zV_blk (pc' := 104) (lo' := [(2, .int x2), (3, .int x3), (4, .int x4), (5, .ref a5), (6, .long x6), (8, .long x8), (10, .int s)]) (st' := [.int s, .long x8, .long (x6 * (s : Int32).toInt64)]) [.lload 6, .iload 10, .i2l, .lmul, .lload 8, .iload 10] (by decide +kernel) rfl ?_
    obtain ⟨v1, hv1, h⟩ := zbind h
    refine zV_roS (idx := 390) (rest := []) (fun Q2 hQ2 => ck_nearestK s0 D cB cI cJ cD (x6 * (s : Int32).toInt64) x8 s  v1 hv1  hQ2) oX11_nearestK (zT_mem 1376 (by decide +kernel) rfl) (zT_mem 1377 (by decide +kernel) rfl) rfl rfl (Nat.le_of_ble_eq_true rfl) ⟨by decide, by decide⟩ (by decide +kernel) ?_
    refine zV_eq (st2 := [.long v1]) rfl rfl rfl rfl ?_
    refine zV_blk (pc' := 121) (lo' := [(11, .long v1), (2, .int x2), (3, .int x3), (4, .int x4), (5, .ref a5), (6, .long x6), (8, .long x8), (10, .int s)]) (st' := [.long ((v1 * x8) - (x6 * (s : Int32).toInt64))]) [.lstore 11, .lload 11, .lload 8, .lmul, .lload 6, .iload 10, .i2l, .lmul, .lsub] (by decide +kernel) rfl ?_
    obtain ⟨v2, hv2, h⟩ := zbind h
    refine zV_roS (idx := 294) (rest := []) (fun Q2 hQ2 => cj_abs s0 D cB cI cJ cD ((v1 * x8) - (x6 * (s : Int32).toInt64))  v2 hv2  hQ2) oJ9_abs_067f4 (zT_mem 1183 (by decide +kernel) rfl) (zT_mem 693 (by decide +kernel) rfl) rfl rfl (Nat.le_of_ble_eq_true rfl) ⟨by decide, by decide⟩ (by decide +kernel) ?_
    refine zV_eq (st2 := [.long v2]) rfl rfl rfl rfl ?_
    refine zV_blk (pc' := 139) (lo' := [(13, .long v2), (11, .long v1), (2, .int x2), (3, .int x3), (4, .int x4), (5, .ref a5), (6, .long x6), (8, .long x8), (10, .int s)]) (st' := [.ref a5, .long ((x3 : Int32).toInt64 * (s : Int32).toInt64), .long (v2 * (x2 : Int32).toInt64)]) [.lstore 13, .lload 13, .iload_n 2, .i2l, .lmul, .iload_n 3, .i2l, .iload 10, .i2l, .lmul, .aload 5] (by decide +kernel) rfl ?_
    obtain ⟨b3, b4, b5, hc6, hc7, hc8, hc9⟩ := ho5
    refine zV_get (ci := 0) (idx := 166) (k := 2) (N := 3) (fs := [.ref b3, .ref b4, .ref b5]) (v := .ref b5) (Or.inl hc6) rfl z_in0 (by decide) (zT_mem 568 (by decide +kernel) rfl) rfl (by decide +kernel) ?_
    refine zV_get (ci := 10) (idx := 387) (k := 2) (N := 5) (fs := [.int x5.2.2.1, .int x5.2.2.2.1, .int x5.2.2.2.2.1, .int x5.2.2.2.2.2.1, .int x5.2.2.2.2.2.2]) (v := .int x5.2.2.2.2.1) (Or.inl hc9) rfl z_in10 (by decide) (zT_mem 283 (by decide +kernel) rfl) rfl (by decide +kernel) ?_
    refine zV_blk (pc' := 148) (lo' := [(13, .long v2), (11, .long v1), (2, .int x2), (3, .int x3), (4, .int x4), (5, .ref a5), (6, .long x6), (8, .long x8), (10, .int s)]) (st' := [.int (lg_cmp (v2 * (x2 : Int32).toInt64) (((x3 : Int32).toInt64 * (s : Int32).toInt64) * (x5.2.2.2.2.1 : Int32).toInt64))]) [.i2l, .lmul, .lcmp] (by decide +kernel) rfl ?_
    refine zV_lcmp_gt (tgt := 165) (off := 17) (by decide +kernel) (by decide) (fun q => ?_) (fun q => ?_)
    · replace h := zif_pos q h
      clear q
      refine zV_blk (pc' := 168) (lo' := [(10, .int (s + 1)), (13, .long v2), (11, .long v1), (2, .int x2), (3, .int x3), (4, .int x4), (5, .ref a5), (6, .long x6), (8, .long x8)]) (st' := []) [.iinc 10 1] (by decide +kernel) rfl ?_
      refine zV_goto (tgt := 86) (off := -82) (by decide +kernel) (by decide) ?_
      obtain rfl := Option.some.inj h
      refine zV_pick (lo2 := [(2, .int x2), (3, .int x3), (4, .int x4), (5, .ref a5), (6, .long x6), (8, .long x8), (10, .int (s + 1))]) [3, 4, 5, 6, 7, 8, 0] rfl ?_
      exact hL86 _ rfl _ _ hXX rfl
    · replace h := zif_neg q h
      clear q
      refine zV_blk (pc' := 153) (lo' := [(13, .long v2), (11, .long v1), (2, .int x2), (3, .int x3), (4, .int x4), (5, .ref a5), (6, .long x6), (8, .long x8), (10, .int s)]) (st' := [.int x4]) [.iload 4] (by decide +kernel) rfl ?_
      refine zV_if_ne (tgt := 162) (off := 9) (by decide +kernel) (by decide) (fun q => ?_) (fun q => ?_)
      · replace h := zif_neg q h
        clear q
        refine zV_blk (pc' := 164) (lo' := [(13, .long v2), (11, .long v1), (2, .int x2), (3, .int x3), (4, .int x4), (5, .ref a5), (6, .long x6), (8, .long x8), (10, .int s)]) (st' := [.long v1]) [.lload 11] (by decide +kernel) rfl ?_
        obtain rfl := Option.some.inj h
        exact zV_lret rfl (by decide +kernel) (hQ _ rfl _ _ hXX)
      · replace h := zif_pos q h
        clear q
        refine zV_blk (pc' := 159) (lo' := [(13, .long v2), (11, .long v1), (2, .int x2), (3, .int x3), (4, .int x4), (5, .ref a5), (6, .long x6), (8, .long x8), (10, .int s)]) (st' := [.long (s : Int32).toInt64]) [.iload 10, .i2l] (by decide +kernel) rfl ?_
        refine zV_goto (tgt := 164) (off := 5) (by decide +kernel) (by decide) ?_
        obtain rfl := Option.some.inj h
        exact zV_lret rfl (by decide +kernel) (hQ _ rfl _ _ hXX)
theorem cl_within_86L (s0 : State) (D : va_G) (cB cI cJ cD : ClassId) (n : Nat) (x2 : Int32) (x3 : Int32) (x4 : Int32) (x5 : vDes) (x6 : Int64) (x8 : Int64) (a5 : Nat) : ∀ (k : Nat) (s : Int32) {hi0 hi hm : zHp} {nx : Nat} {Q : Option Value → zHp → zHp → Nat → Prop} (ho5 : iDes cI hi a5 x5) (_ : zX hi0 hi) {x : Int64} (_ : zloop (l_within_86 n x2 x3 x4 x5 x6 x8) k s = some x) (hQ : ∀ r : Int64, x = r → ∀ (hi' : zHp) (nx' : Nat), zX hi0 hi' → Q (some (.long r)) hi' hm nx'), zV s0 D (zty cB cI cJ cD) yX11_within cX11_within 15 (some .long) 2 53 0 0 86 [(2, .int x2), (3, .int x3), (4, .int x4), (5, .ref a5), (6, .long x6), (8, .long x8), (10, .int s)] [] hi hm nx Q
  | 0, s, _, _, _, _, _, _, _, _, h, _ => by cases h
  | k + 1, s, hi0, hi, hm, nx, Q, ho5, hXX, x, h, hQ => by
    obtain ⟨z, hz, h1, h2⟩ := zloop_succ h
    exact cl_within_86 s0 D cB cI cJ cD n x2 x3 x4 x5 x6 x8 a5 s ho5 hXX hz (fun s' hs hi' nx' hX hi9 => cl_within_86L s0 D cB cI cJ cD n x2 x3 x4 x5 x6 x8 a5 k s' (hi9 ▸ ho5) hX (h1 s' hs) hQ) (fun r hr => hQ r (h2 _ hr).symm)
def l_within (n : Nat) (x0 : (Nat → Option vDes)) (x1 : Int32) (x2 : Int32) (x3 : Int32) (x4 : Int32) : Option (Int64) := (k_designAt x0 x1).bind (fun v1 => zOm v1 (some (-1000000000000000)) (fun z3 => (if (x2 : Int32) < (1 : Int32) then some (-1000000000000000) else (if (100000 : Int32) < (x2 : Int32) then some (-1000000000000000) else (if (x3 : Int32) < (1 : Int32) then some (-1000000000000000) else (if (x3 : Int32) ≤ (9999 : Int32) then (if (x4 : Int32) < (0 : Int32) then some (-1000000000000000) else (if (x4 : Int32) ≤ (1 : Int32) then (k_aboveYear z3).bind (fun v5 => (zloop (l_within_86 n x2 x3 x4 z3 v5 ((z3.2.2.2.2.1 : Int32).toInt64 * (z3.1.2.1 : Int32).toInt64)) n 1)) else some (-1000000000000000))) else some (-1000000000000000)))))))
theorem oX11_within : zO yX11_within cX11_within 15 (some .long) 4 := ⟨zT_mem 1371 (by decide +kernel) rfl, zT_mem 89 (by decide +kernel) rfl, by decide +kernel, by decide +kernel, by decide +kernel⟩
set_option maxHeartbeats 4000000 in
set_option maxRecDepth 100000 in
theorem cl_within (s0 : State) (D : va_G) (cB cI cJ cD : ClassId) (n : Nat) (x0 : (Nat → Option vDes)) (x1 : Int32) (x2 : Int32) (x3 : Int32) (x4 : Int32) (a0 : Nat) (x : Int64) (h : l_within n x0 x1 x2 x3 x4 = some x) {hi hm : zHp} {nx : Nat} {Q : Option Value → zHp → zHp → Nat → Prop} (ho0 : iLD cI cD hi hm a0 x0) (hQ0 : ∀ (hi' : zHp) (nx' : Nat), zX hi hi' → Q (some (.long x)) hi' hm nx') : zM s0 D (zty cB cI cJ cD) yX11_within cX11_within 15 (some .long) 2 53 0 0 [.ref a0, .int x1, .int x2, .int x3, .int x4] hi hm nx Q := by
  have hQ : ∀ r : Int64, x = r → ∀ (hi' : zHp) (nx' : Nat), zX hi hi' → Q (some (.long r)) hi' hm nx' := fun r hr => by subst hr; exact hQ0
  clear hQ0
  have hXX : zX hi hi := zX.rf
  refine zM_of (by decide +kernel) (Nat.le_of_ble_eq_true rfl) ?_
  unfold l_within at h
  refine zV_eq (lo2 := [(0, .ref a0), (1, .int x1), (2, .int x2), (3, .int x3), (4, .int x4)]) rfl rfl rfl rfl ?_
  refine zV_blk (pc' := 2) (lo' := [(0, .ref a0), (1, .int x1), (2, .int x2), (3, .int x3), (4, .int x4)]) (st' := [.int x1, .ref a0]) [.aload_n 0, .iload_n 1] (by decide +kernel) rfl ?_
  obtain ⟨v1, hv1, h⟩ := zbind h
  refine zV_designAt (idx := 105) (rest := []) v1 hv1 ho0 (zT_mem 603 (by decide +kernel) rfl) rfl (Nat.le_of_ble_eq_true rfl) ⟨by decide, by decide⟩ (by decide +kernel) (fun hx => ?_) (fun b2 z3 hx ho4 => ?_)
  · subst hx; replace h := zOm_none h
    refine zV_blk (pc' := 9) (lo' := [(5, .null), (0, .ref a0), (1, .int x1), (2, .int x2), (3, .int x3), (4, .int x4)]) (st' := [.null]) [.astore 5, .aload 5] (by decide +kernel) rfl ?_
    refine zV_ifnull (r := none) (tgt := 36) (off := 27) (by decide +kernel) (by decide) (fun _ => ?_) (fun _ q => by cases q)
    refine zV_ldc2 (idx := 164) (v := (-1000000000000000)) (zT_mem 681 (by decide +kernel) rfl) (by decide +kernel) ?_
    obtain rfl := Option.some.inj h
    exact zV_lret rfl (by decide +kernel) (hQ _ rfl _ _ hXX)
  · subst hx; replace h := zOm_some h
    refine zV_blk (pc' := 9) (lo' := [(5, .ref b2), (0, .ref a0), (1, .int x1), (2, .int x2), (3, .int x3), (4, .int x4)]) (st' := [.ref b2]) [.astore 5, .aload 5] (by decide +kernel) rfl ?_
    refine zV_ifnull (r := some b2) (tgt := 36) (off := 27) (by decide +kernel) (by decide) (fun q => by cases q) (fun _ _ => ?_)
    refine zV_blk (pc' := 14) (lo' := [(5, .ref b2), (0, .ref a0), (1, .int x1), (2, .int x2), (3, .int x3), (4, .int x4)]) (st' := [.int 1, .int x2]) [.iload_n 2, .iconst 1] (by decide +kernel) rfl ?_
    refine zV_icmp_lt (tgt := 36) (off := 22) (by decide +kernel) (by decide) (fun q => ?_) (fun q => ?_)
    · replace h := zif_pos q h
      clear q
      refine zV_ldc2 (idx := 164) (v := (-1000000000000000)) (zT_mem 681 (by decide +kernel) rfl) (by decide +kernel) ?_
      obtain rfl := Option.some.inj h
      exact zV_lret rfl (by decide +kernel) (hQ _ rfl _ _ hXX)
    · replace h := zif_neg q h
      clear q
      refine zV_blk (pc' := 18) (lo' := [(5, .ref b2), (0, .ref a0), (1, .int x1), (2, .int x2), (3, .int x3), (4, .int x4)]) (st' := [.int x2]) [.iload_n 2] (by decide +kernel) rfl ?_
      refine zV_ldcw (idx := 341) (v := 100000) (zT_mem 1013 (by decide +kernel) rfl) (by decide +kernel) ?_
      refine zV_icmp_gt (tgt := 36) (off := 15) (by decide +kernel) (by decide) (fun q => ?_) (fun q => ?_)
      · replace h := zif_pos q h
        clear q
        refine zV_ldc2 (idx := 164) (v := (-1000000000000000)) (zT_mem 681 (by decide +kernel) rfl) (by decide +kernel) ?_
        obtain rfl := Option.some.inj h
        exact zV_lret rfl (by decide +kernel) (hQ _ rfl _ _ hXX)
      · replace h := zif_neg q h
        clear q
        refine zV_blk (pc' := 26) (lo' := [(5, .ref b2), (0, .ref a0), (1, .int x1), (2, .int x2), (3, .int x3), (4, .int x4)]) (st' := [.int 1, .int x3]) [.iload_n 3, .iconst 1] (by decide +kernel) rfl ?_
        refine zV_icmp_lt (tgt := 36) (off := 10) (by decide +kernel) (by decide) (fun q => ?_) (fun q => ?_)
        · replace h := zif_pos q h
          clear q
          refine zV_ldc2 (idx := 164) (v := (-1000000000000000)) (zT_mem 681 (by decide +kernel) rfl) (by decide +kernel) ?_
          obtain rfl := Option.some.inj h
          exact zV_lret rfl (by decide +kernel) (hQ _ rfl _ _ hXX)
        · replace h := zif_neg q h
          clear q
          refine zV_blk (pc' := 33) (lo' := [(5, .ref b2), (0, .ref a0), (1, .int x1), (2, .int x2), (3, .int x3), (4, .int x4)]) (st' := [.int 9999, .int x3]) [.iload_n 3, .sipush 9999] (by decide +kernel) rfl ?_
          refine zV_icmp_le (tgt := 40) (off := 7) (by decide +kernel) (by decide) (fun q => ?_) (fun q => ?_)
          · replace h := zif_pos q h
            clear q
            refine zV_blk (pc' := 42) (lo' := [(5, .ref b2), (0, .ref a0), (1, .int x1), (2, .int x2), (3, .int x3), (4, .int x4)]) (st' := [.int x4]) [.iload 4] (by decide +kernel) rfl ?_
            refine zV_if_lt (tgt := 51) (off := 9) (by decide +kernel) (by decide) (fun q => ?_) (fun q => ?_)
            · replace h := zif_pos q h
              clear q
              refine zV_ldc2 (idx := 164) (v := (-1000000000000000)) (zT_mem 681 (by decide +kernel) rfl) (by decide +kernel) ?_
              obtain rfl := Option.some.inj h
              exact zV_lret rfl (by decide +kernel) (hQ _ rfl _ _ hXX)
            · replace h := zif_neg q h
              clear q
              refine zV_blk (pc' := 48) (lo' := [(5, .ref b2), (0, .ref a0), (1, .int x1), (2, .int x2), (3, .int x3), (4, .int x4)]) (st' := [.int 1, .int x4]) [.iload 4, .iconst 1] (by decide +kernel) rfl ?_
              refine zV_icmp_le (tgt := 55) (off := 7) (by decide +kernel) (by decide) (fun q => ?_) (fun q => ?_)
              · replace h := zif_pos q h
                clear q
                refine zV_blk (pc' := 57) (lo' := [(5, .ref b2), (0, .ref a0), (1, .int x1), (2, .int x2), (3, .int x3), (4, .int x4)]) (st' := [.ref b2]) [.aload 5] (by decide +kernel) rfl ?_
                obtain ⟨v5, hv5, h⟩ := zbind h
                obtain ⟨b6, b7, b8, hc9, hc10, hc11, hc12⟩ := ho4
                refine zV_roV (idx := 384) (rest := []) (fs := [.ref b6, .ref b7, .ref b8]) (ci := 0) (fun Q2 hQ2 => ck_aboveYear s0 D cB cI cJ cD z3 b2 v5 hv5 ⟨b6, b7, b8, hc9, hc10, hc11, hc12⟩ hQ2) oX0_aboveYear (Or.inl hc9) rfl (zT_mem 1372 (by decide +kernel) rfl) (zT_mem 1373 (by decide +kernel) rfl) (zT_mem 1374 (by decide +kernel) rfl) rfl rfl (Nat.le_of_ble_eq_true rfl) ⟨by decide, by decide⟩ (by decide +kernel) ?_
                refine zV_eq (st2 := [.long v5]) rfl rfl rfl rfl ?_
                refine zV_blk (pc' := 64) (lo' := [(6, .long v5), (5, .ref b2), (0, .ref a0), (1, .int x1), (2, .int x2), (3, .int x3), (4, .int x4)]) (st' := [.ref b2]) [.lstore 6, .aload 5] (by decide +kernel) rfl ?_
                refine zV_get (ci := 0) (idx := 166) (k := 2) (N := 3) (fs := [.ref b6, .ref b7, .ref b8]) (v := .ref b8) (Or.inl hc9) rfl z_in0 (by decide) (zT_mem 568 (by decide +kernel) rfl) rfl (by decide +kernel) ?_
                refine zV_get (ci := 10) (idx := 387) (k := 2) (N := 5) (fs := [.int z3.2.2.1, .int z3.2.2.2.1, .int z3.2.2.2.2.1, .int z3.2.2.2.2.2.1, .int z3.2.2.2.2.2.2]) (v := .int z3.2.2.2.2.1) (Or.inl hc12) rfl z_in10 (by decide) (zT_mem 283 (by decide +kernel) rfl) rfl (by decide +kernel) ?_
                refine zV_blk (pc' := 73) (lo' := [(6, .long v5), (5, .ref b2), (0, .ref a0), (1, .int x1), (2, .int x2), (3, .int x3), (4, .int x4)]) (st' := [.ref b2, .long (z3.2.2.2.2.1 : Int32).toInt64]) [.i2l, .aload 5] (by decide +kernel) rfl ?_
                refine zV_get (ci := 0) (idx := 109) (k := 0) (N := 3) (fs := [.ref b6, .ref b7, .ref b8]) (v := .ref b6) (Or.inl hc9) rfl z_in0 (by decide) (zT_mem 564 (by decide +kernel) rfl) rfl (by decide +kernel) ?_
                obtain ⟨b13, hc14, hb15⟩ := hc10
                refine zV_get (ci := 3) (idx := 118) (k := 1) (N := 6) (fs := [.int z3.1.1, .int z3.1.2.1, .ref b13, .int z3.1.2.2.2.1, .int z3.1.2.2.2.2.1, .int z3.1.2.2.2.2.2]) (v := .int z3.1.2.1) (Or.inl hc14) rfl z_in3 (by decide) (zT_mem 536 (by decide +kernel) rfl) rfl (by decide +kernel) ?_
                refine zV_blk (pc' := 86) (lo' := [(10, .int 1), (8, .long ((z3.2.2.2.2.1 : Int32).toInt64 * (z3.1.2.1 : Int32).toInt64)), (6, .long v5), (5, .ref b2), (0, .ref a0), (1, .int x1), (2, .int x2), (3, .int x3), (4, .int x4)]) (st' := []) [.i2l, .lmul, .lstore 8, .iconst 1, .istore 10] (by decide +kernel) rfl ?_
                refine zV_pick (lo2 := [(2, .int x2), (3, .int x3), (4, .int x4), (5, .ref b2), (6, .long v5), (8, .long ((z3.2.2.2.2.1 : Int32).toInt64 * (z3.1.2.1 : Int32).toInt64)), (10, .int 1)]) [6, 7, 8, 3, 2, 1, 0] rfl ?_
                exact cl_within_86L s0 D cB cI cJ cD n x2 x3 x4 z3 v5 ((z3.2.2.2.2.1 : Int32).toInt64 * (z3.1.2.1 : Int32).toInt64) b2 n 1  ⟨b6, b7, b8, hc9, ⟨b13, hc14, hb15⟩, hc11, hc12⟩  hXX h hQ
              · replace h := zif_neg q h
                clear q
                refine zV_ldc2 (idx := 164) (v := (-1000000000000000)) (zT_mem 681 (by decide +kernel) rfl) (by decide +kernel) ?_
                obtain rfl := Option.some.inj h
                exact zV_lret rfl (by decide +kernel) (hQ _ rfl _ _ hXX)
          · replace h := zif_neg q h
            clear q
            refine zV_ldc2 (idx := 164) (v := (-1000000000000000)) (zT_mem 681 (by decide +kernel) rfl) (by decide +kernel) ?_
            obtain rfl := Option.some.inj h
            exact zV_lret rfl (by decide +kernel) (hQ _ rfl _ _ hXX)

def l_apart_87 (n : Nat) (x3 : Int32) (x4 : Int32) (x5 : Int32) (x6 : vDes) (x7 : vDes) : Option (Int64) := (k_farthestStarts n x6 x7 x3 x4 x5).bind (fun v1 => some v1)
set_option maxHeartbeats 4000000 in
set_option maxRecDepth 100000 in
theorem cl_apart_87 (s0 : State) (D : va_G) (cB cI cJ cD : ClassId) (n : Nat) (x3 : Int32) (x4 : Int32) (x5 : Int32) (x6 : vDes) (x7 : vDes) (a6 : Nat) (a7 : Nat) {x : Int64} {hi0 hi hm : zHp} {nx : Nat} {Q : Option Value → zHp → zHp → Nat → Prop} (ho6 : iDes cI hi a6 x6) (ho7 : iDes cI hi a7 x7) (hXX : zX hi0 hi) (h : l_apart_87 n x3 x4 x5 x6 x7 = some x) (hQ : ∀ r : Int64, x = r → ∀ (hi' : zHp) (nx' : Nat), zX hi0 hi' → Q (some (.long r)) hi' hm nx') : zV s0 D (zty cB cI cJ cD) yX11_apart cX11_apart 8 (some .long) 4 101 0 0 87 [(3, .int x3), (4, .int x4), (5, .int x5), (6, .ref a6), (7, .ref a7)] [] hi hm nx Q := by
  unfold l_apart_87 at h
  refine zV_blk (pc' := 96) (lo' := [(3, .int x3), (4, .int x4), (5, .int x5), (6, .ref a6), (7, .ref a7)]) (st' := [.int x5, .int x4, .int x3, .ref a7, .ref a6]) [.aload 6, .aload 7, .iload_n 3, .iload 4, .iload 5] (by decide +kernel) rfl ?_
  obtain ⟨v1, hv1, h⟩ := zbind h
  refine zV_roS (idx := 403) (rest := []) (fun Q2 hQ2 => ck_farthestStarts s0 D cB cI cJ cD n x6 x7 x3 x4 x5 a6 a7 v1 hv1 ho6 ho7 hQ2) oX11_farthestStarts (zT_mem 1392 (by decide +kernel) rfl) (zT_mem 1393 (by decide +kernel) rfl) rfl rfl (Nat.le_of_ble_eq_true rfl) ⟨by decide, by decide⟩ (by decide +kernel) ?_
  refine zV_eq (st2 := [.long v1]) rfl rfl rfl rfl ?_
  obtain rfl := Option.some.inj h
  exact zV_lret rfl (by decide +kernel) (hQ _ rfl _ _ hXX)
def l_apart_68 (n : Nat) (x3 : Int32) (x4 : Int32) (x5 : Int32) (x6 : vDes) (x7 : vDes) : Option (Int64) := (k_lonelyLeaps n x6.2.1 x7.2.1 x3 x4 x5).bind (fun v15 => some v15)
set_option maxHeartbeats 4000000 in
set_option maxRecDepth 100000 in
theorem cl_apart_68 (s0 : State) (D : va_G) (cB cI cJ cD : ClassId) (n : Nat) (x3 : Int32) (x4 : Int32) (x5 : Int32) (x6 : vDes) (x7 : vDes) (a6 : Nat) (a7 : Nat) {x : Int64} {hi0 hi hm : zHp} {nx : Nat} {Q : Option Value → zHp → zHp → Nat → Prop} (ho6 : iDes cI hi a6 x6) (ho7 : iDes cI hi a7 x7) (hXX : zX hi0 hi) (h : l_apart_68 n x3 x4 x5 x6 x7 = some x) (hQ : ∀ r : Int64, x = r → ∀ (hi' : zHp) (nx' : Nat), zX hi0 hi' → Q (some (.long r)) hi' hm nx') : zV s0 D (zty cB cI cJ cD) yX11_apart cX11_apart 8 (some .long) 4 101 0 0 68 [(3, .int x3), (4, .int x4), (5, .int x5), (6, .ref a6), (7, .ref a7)] [] hi hm nx Q := by
  unfold l_apart_68 at h
  refine zV_blk (pc' := 70) (lo' := [(3, .int x3), (4, .int x4), (5, .int x5), (6, .ref a6), (7, .ref a7)]) (st' := [.ref a6]) [.aload 6] (by decide +kernel) rfl ?_
  obtain ⟨b1, b2, b3, hc4, hc5, hc6, hc7⟩ := ho6
  refine zV_get (ci := 0) (idx := 95) (k := 1) (N := 3) (fs := [.ref b1, .ref b2, .ref b3]) (v := .ref b2) (Or.inl hc4) rfl z_in0 (by decide) (zT_mem 566 (by decide +kernel) rfl) rfl (by decide +kernel) ?_
  refine zV_blk (pc' := 75) (lo' := [(3, .int x3), (4, .int x4), (5, .int x5), (6, .ref a6), (7, .ref a7)]) (st' := [.ref a7, .ref b2]) [.aload 7] (by decide +kernel) rfl ?_
  obtain ⟨b8, b9, b10, hc11, hc12, hc13, hc14⟩ := ho7
  refine zV_get (ci := 0) (idx := 95) (k := 1) (N := 3) (fs := [.ref b8, .ref b9, .ref b10]) (v := .ref b9) (Or.inl hc11) rfl z_in0 (by decide) (zT_mem 566 (by decide +kernel) rfl) rfl (by decide +kernel) ?_
  refine zV_blk (pc' := 83) (lo' := [(3, .int x3), (4, .int x4), (5, .int x5), (6, .ref a6), (7, .ref a7)]) (st' := [.int x5, .int x4, .int x3, .ref b9, .ref b2]) [.iload_n 3, .iload 4, .iload 5] (by decide +kernel) rfl ?_
  obtain ⟨v15, hv15, h⟩ := zbind h
  refine zV_roS (idx := 399) (rest := []) (fun Q2 hQ2 => ck_lonelyLeaps s0 D cB cI cJ cD n x6.2.1 x7.2.1 x3 x4 x5 b2 b9 v15 hv15 hc6 hc13 hQ2) oX11_lonelyLeaps (zT_mem 1389 (by decide +kernel) rfl) (zT_mem 1390 (by decide +kernel) rfl) rfl rfl (Nat.le_of_ble_eq_true rfl) ⟨by decide, by decide⟩ (by decide +kernel) ?_
  refine zV_eq (st2 := [.long v15]) rfl rfl rfl rfl ?_
  obtain rfl := Option.some.inj h
  exact zV_lret rfl (by decide +kernel) (hQ _ rfl _ _ hXX)
def l_apart (n : Nat) (x0 : (Nat → Option vDes)) (x1 : Int32) (x2 : Int32) (x3 : Int32) (x4 : Int32) (x5 : Int32) : Option (Int64) := (k_designAt x0 x1).bind (fun v1 => zOm v1 ((k_designAt x0 x2).bind (fun v5 => zOm v5 (some (-1000000000000000)) (fun z7 => some (-1000000000000000)))) (fun z3 => (k_designAt x0 x2).bind (fun v9 => zOm v9 (some (-1000000000000000)) (fun z11 => (k_isWalk x3 x4).bind (fun v13 => (if v13 = true then (if (x5 : Int32) = 0 then (l_apart_68 n x3 x4 x5 z3 z11 ) else (if (x5 : Int32) = 1 then (l_apart_68 n x3 x4 x5 z3 z11 ) else (if (x5 : Int32) = 2 then (l_apart_87 n x3 x4 x5 z3 z11 ) else (if (x5 : Int32) = 3 then (l_apart_87 n x3 x4 x5 z3 z11 ) else some (-1000000000000000))))) else some (-1000000000000000)))))))
theorem oX11_apart : zO yX11_apart cX11_apart 8 (some .long) 5 := ⟨zT_mem 1388 (by decide +kernel) rfl, zT_mem 89 (by decide +kernel) rfl, by decide +kernel, by decide +kernel, by decide +kernel⟩
set_option maxHeartbeats 4000000 in
set_option maxRecDepth 100000 in
theorem cl_apart (s0 : State) (D : va_G) (cB cI cJ cD : ClassId) (n : Nat) (x0 : (Nat → Option vDes)) (x1 : Int32) (x2 : Int32) (x3 : Int32) (x4 : Int32) (x5 : Int32) (a0 : Nat) (x : Int64) (h : l_apart n x0 x1 x2 x3 x4 x5 = some x) {hi hm : zHp} {nx : Nat} {Q : Option Value → zHp → zHp → Nat → Prop} (ho0 : iLD cI cD hi hm a0 x0) (hQ0 : ∀ (hi' : zHp) (nx' : Nat), zX hi hi' → Q (some (.long x)) hi' hm nx') : zM s0 D (zty cB cI cJ cD) yX11_apart cX11_apart 8 (some .long) 4 101 0 0 [.ref a0, .int x1, .int x2, .int x3, .int x4, .int x5] hi hm nx Q := by
  have hQ : ∀ r : Int64, x = r → ∀ (hi' : zHp) (nx' : Nat), zX hi hi' → Q (some (.long r)) hi' hm nx' := fun r hr => by subst hr; exact hQ0
  clear hQ0
  have hXX : zX hi hi := zX.rf
  refine zM_of (by decide +kernel) (Nat.le_of_ble_eq_true rfl) ?_
  unfold l_apart at h
  refine zV_eq (lo2 := [(0, .ref a0), (1, .int x1), (2, .int x2), (3, .int x3), (4, .int x4), (5, .int x5)]) rfl rfl rfl rfl ?_
  refine zV_blk (pc' := 2) (lo' := [(0, .ref a0), (1, .int x1), (2, .int x2), (3, .int x3), (4, .int x4), (5, .int x5)]) (st' := [.int x1, .ref a0]) [.aload_n 0, .iload_n 1] (by decide +kernel) rfl ?_
  obtain ⟨v1, hv1, h⟩ := zbind h
  refine zV_designAt (idx := 105) (rest := []) v1 hv1 ho0 (zT_mem 603 (by decide +kernel) rfl) rfl (Nat.le_of_ble_eq_true rfl) ⟨by decide, by decide⟩ (by decide +kernel) (fun hx => ?_) (fun b2 z3 hx ho4 => ?_)
  · subst hx; replace h := zOm_none h
    refine zV_blk (pc' := 9) (lo' := [(6, .null), (0, .ref a0), (1, .int x1), (2, .int x2), (3, .int x3), (4, .int x4), (5, .int x5)]) (st' := [.int x2, .ref a0]) [.astore 6, .aload_n 0, .iload_n 2] (by decide +kernel) rfl ?_
    obtain ⟨v5, hv5, h⟩ := zbind h
    refine zV_designAt (idx := 105) (rest := []) v5 hv5 ho0 (zT_mem 603 (by decide +kernel) rfl) rfl (Nat.le_of_ble_eq_true rfl) ⟨by decide, by decide⟩ (by decide +kernel) (fun hx => ?_) (fun b6 z7 hx ho8 => ?_)
    · subst hx; replace h := zOm_none h
      refine zV_blk (pc' := 16) (lo' := [(7, .null), (6, .null), (0, .ref a0), (1, .int x1), (2, .int x2), (3, .int x3), (4, .int x4), (5, .int x5)]) (st' := [.null]) [.astore 7, .aload 6] (by decide +kernel) rfl ?_
      refine zV_ifnull (r := none) (tgt := 33) (off := 17) (by decide +kernel) (by decide) (fun _ => ?_) (fun _ q => by cases q)
      refine zV_ldc2 (idx := 164) (v := (-1000000000000000)) (zT_mem 681 (by decide +kernel) rfl) (by decide +kernel) ?_
      obtain rfl := Option.some.inj h
      exact zV_lret rfl (by decide +kernel) (hQ _ rfl _ _ hXX)
    · subst hx; replace h := zOm_some h
      refine zV_blk (pc' := 16) (lo' := [(7, .ref b6), (6, .null), (0, .ref a0), (1, .int x1), (2, .int x2), (3, .int x3), (4, .int x4), (5, .int x5)]) (st' := [.null]) [.astore 7, .aload 6] (by decide +kernel) rfl ?_
      refine zV_ifnull (r := none) (tgt := 33) (off := 17) (by decide +kernel) (by decide) (fun _ => ?_) (fun _ q => by cases q)
      refine zV_ldc2 (idx := 164) (v := (-1000000000000000)) (zT_mem 681 (by decide +kernel) rfl) (by decide +kernel) ?_
      obtain rfl := Option.some.inj h
      exact zV_lret rfl (by decide +kernel) (hQ _ rfl _ _ hXX)
  · subst hx; replace h := zOm_some h
    refine zV_blk (pc' := 9) (lo' := [(6, .ref b2), (0, .ref a0), (1, .int x1), (2, .int x2), (3, .int x3), (4, .int x4), (5, .int x5)]) (st' := [.int x2, .ref a0]) [.astore 6, .aload_n 0, .iload_n 2] (by decide +kernel) rfl ?_
    obtain ⟨v9, hv9, h⟩ := zbind h
    refine zV_designAt (idx := 105) (rest := []) v9 hv9 ho0 (zT_mem 603 (by decide +kernel) rfl) rfl (Nat.le_of_ble_eq_true rfl) ⟨by decide, by decide⟩ (by decide +kernel) (fun hx => ?_) (fun b10 z11 hx ho12 => ?_)
    · subst hx; replace h := zOm_none h
      refine zV_blk (pc' := 16) (lo' := [(7, .null), (6, .ref b2), (0, .ref a0), (1, .int x1), (2, .int x2), (3, .int x3), (4, .int x4), (5, .int x5)]) (st' := [.ref b2]) [.astore 7, .aload 6] (by decide +kernel) rfl ?_
      refine zV_ifnull (r := some b2) (tgt := 33) (off := 17) (by decide +kernel) (by decide) (fun q => by cases q) (fun _ _ => ?_)
      refine zV_blk (pc' := 21) (lo' := [(7, .null), (6, .ref b2), (0, .ref a0), (1, .int x1), (2, .int x2), (3, .int x3), (4, .int x4), (5, .int x5)]) (st' := [.null]) [.aload 7] (by decide +kernel) rfl ?_
      refine zV_ifnull (r := none) (tgt := 33) (off := 12) (by decide +kernel) (by decide) (fun _ => ?_) (fun _ q => by cases q)
      refine zV_ldc2 (idx := 164) (v := (-1000000000000000)) (zT_mem 681 (by decide +kernel) rfl) (by decide +kernel) ?_
      obtain rfl := Option.some.inj h
      exact zV_lret rfl (by decide +kernel) (hQ _ rfl _ _ hXX)
    · subst hx; replace h := zOm_some h
      refine zV_blk (pc' := 16) (lo' := [(7, .ref b10), (6, .ref b2), (0, .ref a0), (1, .int x1), (2, .int x2), (3, .int x3), (4, .int x4), (5, .int x5)]) (st' := [.ref b2]) [.astore 7, .aload 6] (by decide +kernel) rfl ?_
      refine zV_ifnull (r := some b2) (tgt := 33) (off := 17) (by decide +kernel) (by decide) (fun q => by cases q) (fun _ _ => ?_)
      refine zV_blk (pc' := 21) (lo' := [(7, .ref b10), (6, .ref b2), (0, .ref a0), (1, .int x1), (2, .int x2), (3, .int x3), (4, .int x4), (5, .int x5)]) (st' := [.ref b10]) [.aload 7] (by decide +kernel) rfl ?_
      refine zV_ifnull (r := some b10) (tgt := 33) (off := 12) (by decide +kernel) (by decide) (fun q => by cases q) (fun _ _ => ?_)
      refine zV_blk (pc' := 27) (lo' := [(7, .ref b10), (6, .ref b2), (0, .ref a0), (1, .int x1), (2, .int x2), (3, .int x3), (4, .int x4), (5, .int x5)]) (st' := [.int x4, .int x3]) [.iload_n 3, .iload 4] (by decide +kernel) rfl ?_
      obtain ⟨v13, hv13, h⟩ := zbind h
      refine zV_roS (idx := 257) (rest := []) (fun Q2 hQ2 => ck_isWalk s0 D cB cI cJ cD x3 x4  v13 hv13  hQ2) oX11_isWalk (zT_mem 1142 (by decide +kernel) rfl) (zT_mem 1143 (by decide +kernel) rfl) rfl rfl (Nat.le_of_ble_eq_true rfl) ⟨by decide, by decide⟩ (by decide +kernel) ?_
      refine zV_eq (st2 := [.int (zb v13)]) rfl rfl rfl rfl ?_
      refine zV_bif_ne (tgt := 37) (off := 7) (by decide +kernel) (by decide) (fun q => ?_) (fun q => ?_)
      · replace h := zif_pos q h
        clear q
        refine zV_blk (pc' := 39) (lo' := [(7, .ref b10), (6, .ref b2), (0, .ref a0), (1, .int x1), (2, .int x2), (3, .int x3), (4, .int x4), (5, .int x5)]) (st' := [.int x5]) [.iload 5] (by decide +kernel) rfl ?_
        by_cases q14 : (x5 : Int32) = 0
        · replace h := zif_pos q14 h
          refine zV_tin (tgt := 68) (off := 29) (dflt := 61) (l1 := 0) (h1 := 3) (offs := #[29, 29, 48, 48]) (len := 29) 0 q14 (by decide +kernel) (by decide +kernel) (by decide +kernel) (by decide +kernel) (by decide) ?_
          refine zV_pick (lo2 := [(3, .int x3), (4, .int x4), (5, .int x5), (6, .ref b2), (7, .ref b10)]) [5, 6, 7, 1, 0] rfl ?_
          exact cl_apart_68 s0 D cB cI cJ cD n x3 x4 x5 z3 z11  b2 b10 ho4 ho12 hXX h hQ
        · replace h := zif_neg q14 h
          by_cases q15 : (x5 : Int32) = 1
          · replace h := zif_pos q15 h
            refine zV_tin (tgt := 68) (off := 29) (dflt := 61) (l1 := 0) (h1 := 3) (offs := #[29, 29, 48, 48]) (len := 29) 1 q15 (by decide +kernel) (by decide +kernel) (by decide +kernel) (by decide +kernel) (by decide) ?_
            refine zV_pick (lo2 := [(3, .int x3), (4, .int x4), (5, .int x5), (6, .ref b2), (7, .ref b10)]) [5, 6, 7, 1, 0] rfl ?_
            exact cl_apart_68 s0 D cB cI cJ cD n x3 x4 x5 z3 z11  b2 b10 ho4 ho12 hXX h hQ
          · replace h := zif_neg q15 h
            by_cases q16 : (x5 : Int32) = 2
            · replace h := zif_pos q16 h
              refine zV_tin (tgt := 87) (off := 48) (dflt := 61) (l1 := 0) (h1 := 3) (offs := #[29, 29, 48, 48]) (len := 29) 2 q16 (by decide +kernel) (by decide +kernel) (by decide +kernel) (by decide +kernel) (by decide) ?_
              refine zV_pick (lo2 := [(3, .int x3), (4, .int x4), (5, .int x5), (6, .ref b2), (7, .ref b10)]) [5, 6, 7, 1, 0] rfl ?_
              exact cl_apart_87 s0 D cB cI cJ cD n x3 x4 x5 z3 z11  b2 b10 ho4 ho12 hXX h hQ
            · replace h := zif_neg q16 h
              by_cases q17 : (x5 : Int32) = 3
              · replace h := zif_pos q17 h
                refine zV_tin (tgt := 87) (off := 48) (dflt := 61) (l1 := 0) (h1 := 3) (offs := #[29, 29, 48, 48]) (len := 29) 3 q17 (by decide +kernel) (by decide +kernel) (by decide +kernel) (by decide +kernel) (by decide) ?_
                refine zV_pick (lo2 := [(3, .int x3), (4, .int x4), (5, .int x5), (6, .ref b2), (7, .ref b10)]) [5, 6, 7, 1, 0] rfl ?_
                exact cl_apart_87 s0 D cB cI cJ cD n x3 x4 x5 z3 z11  b2 b10 ho4 ho12 hXX h hQ
              · replace h := zif_neg q17 h
                refine zV_tout (tgt := 100) (dflt := 61) (l1 := 0) (h1 := 3) (offs := #[29, 29, 48, 48]) (len := 29) (by have nq14 := zne 0 0 (by decide +kernel) q14; have nq15 := zne 1 1 (by decide +kernel) q15; have nq16 := zne 2 2 (by decide +kernel) q16; have nq17 := zne 3 3 (by decide +kernel) q17; omega) (by decide +kernel) (by decide) ?_
                refine zV_ldc2 (idx := 164) (v := (-1000000000000000)) (zT_mem 681 (by decide +kernel) rfl) (by decide +kernel) ?_
                obtain rfl := Option.some.inj h
                exact zV_lret rfl (by decide +kernel) (hQ _ rfl _ _ hXX)
      · replace h := zif_neg q h
        clear q
        refine zV_ldc2 (idx := 164) (v := (-1000000000000000)) (zT_mem 681 (by decide +kernel) rfl) (by decide +kernel) ?_
        obtain rfl := Option.some.inj h
        exact zV_lret rfl (by decide +kernel) (hQ _ rfl _ _ hXX)

def l_best (x0 : (Nat → Option vDes)) (x1 : Int32) (x2 : Int32) (x3 : Int32) (x4 : Int32) : Option (Int64) := (k_isShare x1 x2).bind (fun v1 => (if v1 = true then (if (x3 : Int32) < (1 : Int32) then some (-1000000000000000) else (if (x3 : Int32) ≤ (100000 : Int32) then (k_nearest (x1 : Int32).toInt64 (x2 : Int32).toInt64 (x3 : Int32).toInt64).bind (fun v2 => (k_tellPart v2 x4).bind (fun v6 => some v6)) else some (-1000000000000000))) else some (-1000000000000000)))
theorem oX11_best : zO yX11_best cX11_best 5 (some .long) 4 := ⟨zT_mem 1398 (by decide +kernel) rfl, zT_mem 89 (by decide +kernel) rfl, by decide +kernel, by decide +kernel, by decide +kernel⟩
set_option maxHeartbeats 4000000 in
set_option maxRecDepth 100000 in
theorem cl_best (s0 : State) (D : va_G) (cB cI cJ cD : ClassId) (x0 : (Nat → Option vDes)) (x1 : Int32) (x2 : Int32) (x3 : Int32) (x4 : Int32) (a0 : Nat) (x : Int64) (h : l_best x0 x1 x2 x3 x4 = some x) {hi hm : zHp} {nx : Nat} {Q : Option Value → zHp → zHp → Nat → Prop} (ho0 : iLD cI cD hi hm a0 x0) (hQ0 : ∀ (hi' : zHp) (nx' : Nat), zX hi hi' → Q (some (.long x)) hi' hm nx') : zM s0 D (zty cB cI cJ cD) yX11_best cX11_best 5 (some .long) 4 102 259 518 [.ref a0, .int x1, .int x2, .int x3, .int x4] hi hm nx Q := by
  have hQ : ∀ r : Int64, x = r → ∀ (hi' : zHp) (nx' : Nat), zX hi hi' → Q (some (.long r)) hi' hm nx' := fun r hr => by subst hr; exact hQ0
  clear hQ0
  have hXX : zX hi hi := zX.rf
  refine zM_of (by decide +kernel) (Nat.le_of_ble_eq_true rfl) ?_
  unfold l_best at h
  refine zV_eq (lo2 := [(0, .ref a0), (1, .int x1), (2, .int x2), (3, .int x3), (4, .int x4)]) rfl rfl rfl rfl ?_
  refine zV_blk (pc' := 2) (lo' := [(0, .ref a0), (1, .int x1), (2, .int x2), (3, .int x3), (4, .int x4)]) (st' := [.int x2, .int x1]) [.iload_n 1, .iload_n 2] (by decide +kernel) rfl ?_
  obtain ⟨v1, hv1, h⟩ := zbind h
  refine zV_roS (idx := 407) (rest := []) (fun Q2 hQ2 => ck_isShare s0 D cB cI cJ cD x1 x2  v1 hv1  hQ2) oX11_isShare (zT_mem 1399 (by decide +kernel) rfl) (zT_mem 1400 (by decide +kernel) rfl) rfl rfl (Nat.le_of_ble_eq_true rfl) ⟨by decide, by decide⟩ (by decide +kernel) ?_
  refine zV_eq (st2 := [.int (zb v1)]) rfl rfl rfl rfl ?_
  refine zV_bif_eq (tgt := 20) (off := 15) (by decide +kernel) (by decide) (fun q => ?_) (fun q => ?_)
  · replace h := zif_neg q h
    clear q
    refine zV_less (mc' := 0) (ms' := 0) (by decide) (by decide) ?_
    refine zV_ldc2 (idx := 164) (v := (-1000000000000000)) (zT_mem 681 (by decide +kernel) rfl) (by decide +kernel) ?_
    obtain rfl := Option.some.inj h
    exact zV_lret rfl (by decide +kernel) (hQ _ rfl _ _ hXX)
  · replace h := zif_pos q h
    clear q
    refine zV_blk (pc' := 10) (lo' := [(0, .ref a0), (1, .int x1), (2, .int x2), (3, .int x3), (4, .int x4)]) (st' := [.int 1, .int x3]) [.iload_n 3, .iconst 1] (by decide +kernel) rfl ?_
    refine zV_icmp_lt (tgt := 20) (off := 10) (by decide +kernel) (by decide) (fun q => ?_) (fun q => ?_)
    · replace h := zif_pos q h
      clear q
      refine zV_less (mc' := 0) (ms' := 0) (by decide) (by decide) ?_
      refine zV_ldc2 (idx := 164) (v := (-1000000000000000)) (zT_mem 681 (by decide +kernel) rfl) (by decide +kernel) ?_
      obtain rfl := Option.some.inj h
      exact zV_lret rfl (by decide +kernel) (hQ _ rfl _ _ hXX)
    · replace h := zif_neg q h
      clear q
      refine zV_blk (pc' := 14) (lo' := [(0, .ref a0), (1, .int x1), (2, .int x2), (3, .int x3), (4, .int x4)]) (st' := [.int x3]) [.iload_n 3] (by decide +kernel) rfl ?_
      refine zV_ldcw (idx := 341) (v := 100000) (zT_mem 1013 (by decide +kernel) rfl) (by decide +kernel) ?_
      refine zV_icmp_le (tgt := 24) (off := 7) (by decide +kernel) (by decide) (fun q => ?_) (fun q => ?_)
      · replace h := zif_pos q h
        clear q
        refine zV_blk (pc' := 30) (lo' := [(0, .ref a0), (1, .int x1), (2, .int x2), (3, .int x3), (4, .int x4)]) (st' := [.long (x3 : Int32).toInt64, .long (x2 : Int32).toInt64, .long (x1 : Int32).toInt64]) [.iload_n 1, .i2l, .iload_n 2, .i2l, .iload_n 3, .i2l] (by decide +kernel) rfl ?_
        obtain ⟨v2, hv2, h⟩ := zbind h
        refine zV_alS (mc := 0) (ms := 0) (fun hi' v' => ∃ a' : Nat, v' = some (.ref a') ∧ iFra hi' a' v2) (idx := 410) (rest := []) (fun Q2 hQ2 => ck_nearest s0 D cB cI cJ cD (x1 : Int32).toInt64 (x2 : Int32).toInt64 (x3 : Int32).toInt64  v2 hv2  (fun a' hi' nx' hX hr => hQ2 _ _ _ hX ⟨a', rfl, hr⟩)) oX2_nearest (zT_mem 1402 (by decide +kernel) rfl) (zT_mem 1403 (by decide +kernel) rfl) rfl rfl (Nat.le_of_ble_eq_true rfl) ⟨by decide, by decide⟩ (by decide +kernel) ?_
        rintro _ hi2 nx5 hX ⟨b3, rfl, ho4⟩
        replace ho0 := ho0.mono hX
        replace hXX := hXX.tr hX; clear hX
        refine zV_eq (st2 := [.ref b3]) rfl rfl rfl rfl ?_
        refine zV_blk (pc' := 35) (lo' := [(0, .ref a0), (1, .int x1), (2, .int x2), (3, .int x3), (4, .int x4)]) (st' := [.int x4, .ref b3]) [.iload 4] (by decide +kernel) rfl ?_
        obtain ⟨v6, hv6, h⟩ := zbind h
        refine zV_roV (idx := 179) (rest := []) (fs := [.long v2.1, .long v2.2]) (ci := 2) (fun Q2 hQ2 => ck_tellPart s0 D cB cI cJ cD v2 x4 b3 v6 hv6 ho4 hQ2) oX2_tellPart (Or.inl ho4) rfl (zT_mem 724 (by decide +kernel) rfl) (zT_mem 725 (by decide +kernel) rfl) (zT_mem 726 (by decide +kernel) rfl) rfl rfl (Nat.le_of_ble_eq_true rfl) ⟨by decide, by decide⟩ (by decide +kernel) ?_
        refine zV_eq (st2 := [.long v6]) rfl rfl rfl rfl ?_
        obtain rfl := Option.some.inj h
        exact zV_lret rfl (by decide +kernel) (hQ _ rfl _ _ hXX)
      · replace h := zif_neg q h
        clear q
        refine zV_less (mc' := 0) (ms' := 0) (by decide) (by decide) ?_
        refine zV_ldc2 (idx := 164) (v := (-1000000000000000)) (zT_mem 681 (by decide +kernel) rfl) (by decide +kernel) ?_
        obtain rfl := Option.some.inj h
        exact zV_lret rfl (by decide +kernel) (hQ _ rfl _ _ hXX)

def l_term (n : Nat) (x0 : (Nat → Option vDes)) (x1 : Int32) (x2 : Int32) (x3 : Int32) : Option (Int64) := (k_isShare x1 x2).bind (fun v1 => (if v1 = true then (k_tellTerm n (x1 : Int32).toInt64 (x2 : Int32).toInt64 x3).bind (fun v2 => some v2) else some (-1000000000000000)))
theorem oX11_term : zO yX11_term cX11_term 4 (some .long) 3 := ⟨zT_mem 1416 (by decide +kernel) rfl, zT_mem 89 (by decide +kernel) rfl, by decide +kernel, by decide +kernel, by decide +kernel⟩
set_option maxHeartbeats 4000000 in
set_option maxRecDepth 100000 in
theorem cl_term (s0 : State) (D : va_G) (cB cI cJ cD : ClassId) (n : Nat) (x0 : (Nat → Option vDes)) (x1 : Int32) (x2 : Int32) (x3 : Int32) (a0 : Nat) (x : Int64) (h : l_term n x0 x1 x2 x3 = some x) {hi hm : zHp} {nx : Nat} {Q : Option Value → zHp → zHp → Nat → Prop} (ho0 : iLD cI cD hi hm a0 x0) (hQ0 : ∀ (hi' : zHp) (nx' : Nat), zX hi hi' → Q (some (.long x)) hi' hm nx') : zM s0 D (zty cB cI cJ cD) yX11_term cX11_term 4 (some .long) 1 31 0 0 [.ref a0, .int x1, .int x2, .int x3] hi hm nx Q := by
  have hQ : ∀ r : Int64, x = r → ∀ (hi' : zHp) (nx' : Nat), zX hi hi' → Q (some (.long r)) hi' hm nx' := fun r hr => by subst hr; exact hQ0
  clear hQ0
  have hXX : zX hi hi := zX.rf
  refine zM_of (by decide +kernel) (Nat.le_of_ble_eq_true rfl) ?_
  unfold l_term at h
  refine zV_eq (lo2 := [(0, .ref a0), (1, .int x1), (2, .int x2), (3, .int x3)]) rfl rfl rfl rfl ?_
  refine zV_blk (pc' := 2) (lo' := [(0, .ref a0), (1, .int x1), (2, .int x2), (3, .int x3)]) (st' := [.int x2, .int x1]) [.iload_n 1, .iload_n 2] (by decide +kernel) rfl ?_
  obtain ⟨v1, hv1, h⟩ := zbind h
  refine zV_roS (idx := 407) (rest := []) (fun Q2 hQ2 => ck_isShare s0 D cB cI cJ cD x1 x2  v1 hv1  hQ2) oX11_isShare (zT_mem 1399 (by decide +kernel) rfl) (zT_mem 1400 (by decide +kernel) rfl) rfl rfl (Nat.le_of_ble_eq_true rfl) ⟨by decide, by decide⟩ (by decide +kernel) ?_
  refine zV_eq (st2 := [.int (zb v1)]) rfl rfl rfl rfl ?_
  refine zV_bif_eq (tgt := 19) (off := 14) (by decide +kernel) (by decide) (fun q => ?_) (fun q => ?_)
  · replace h := zif_neg q h
    clear q
    refine zV_ldc2 (idx := 164) (v := (-1000000000000000)) (zT_mem 681 (by decide +kernel) rfl) (by decide +kernel) ?_
    obtain rfl := Option.some.inj h
    exact zV_lret rfl (by decide +kernel) (hQ _ rfl _ _ hXX)
  · replace h := zif_pos q h
    clear q
    refine zV_blk (pc' := 13) (lo' := [(0, .ref a0), (1, .int x1), (2, .int x2), (3, .int x3)]) (st' := [.int x3, .long (x2 : Int32).toInt64, .long (x1 : Int32).toInt64]) [.iload_n 1, .i2l, .iload_n 2, .i2l, .iload_n 3] (by decide +kernel) rfl ?_
    obtain ⟨v2, hv2, h⟩ := zbind h
    refine zV_roS (idx := 414) (rest := []) (fun Q2 hQ2 => ck_tellTerm s0 D cB cI cJ cD n (x1 : Int32).toInt64 (x2 : Int32).toInt64 x3  v2 hv2  hQ2) oX2_tellTerm (zT_mem 1417 (by decide +kernel) rfl) (zT_mem 1418 (by decide +kernel) rfl) rfl rfl (Nat.le_of_ble_eq_true rfl) ⟨by decide, by decide⟩ (by decide +kernel) ?_
    refine zV_eq (st2 := [.long v2]) rfl rfl rfl rfl ?_
    refine zV_goto (tgt := 22) (off := 6) (by decide +kernel) (by decide) ?_
    obtain rfl := Option.some.inj h
    exact zV_lret rfl (by decide +kernel) (hQ _ rfl _ _ hXX)

def l_convergent (x0 : (Nat → Option vDes)) (x1 : Int32) (x2 : Int32) (x3 : Int32) (x4 : Int32) : Option (Int64) := (k_isShare x1 x2).bind (fun v1 => (if v1 = true then (if (0 : Int32) ≤ (x3 : Int32) then (k_ofTerms (x1 : Int32).toInt64 (x2 : Int32).toInt64 x3).bind (fun v2 => zOm v2 (some (-1000000000000000)) (fun z4 => (k_tellPart z4 x4).bind (fun v7 => some v7))) else some (-1000000000000000)) else some (-1000000000000000)))
theorem oX11_convergent : zO yX11_convergent cX11_convergent 6 (some .long) 4 := ⟨zT_mem 1423 (by decide +kernel) rfl, zT_mem 89 (by decide +kernel) rfl, by decide +kernel, by decide +kernel, by decide +kernel⟩
set_option maxHeartbeats 4000000 in
set_option maxRecDepth 100000 in
theorem cl_convergent (s0 : State) (D : va_G) (cB cI cJ cD : ClassId) (x0 : (Nat → Option vDes)) (x1 : Int32) (x2 : Int32) (x3 : Int32) (x4 : Int32) (a0 : Nat) (x : Int64) (h : l_convergent x0 x1 x2 x3 x4 = some x) {hi hm : zHp} {nx : Nat} {Q : Option Value → zHp → zHp → Nat → Prop} (ho0 : iLD cI cD hi hm a0 x0) (hQ0 : ∀ (hi' : zHp) (nx' : Nat), zX hi hi' → Q (some (.long x)) hi' hm nx') : zM s0 D (zty cB cI cJ cD) yX11_convergent cX11_convergent 6 (some .long) 4 101 258 516 [.ref a0, .int x1, .int x2, .int x3, .int x4] hi hm nx Q := by
  have hQ : ∀ r : Int64, x = r → ∀ (hi' : zHp) (nx' : Nat), zX hi hi' → Q (some (.long r)) hi' hm nx' := fun r hr => by subst hr; exact hQ0
  clear hQ0
  have hXX : zX hi hi := zX.rf
  refine zM_of (by decide +kernel) (Nat.le_of_ble_eq_true rfl) ?_
  unfold l_convergent at h
  refine zV_eq (lo2 := [(0, .ref a0), (1, .int x1), (2, .int x2), (3, .int x3), (4, .int x4)]) rfl rfl rfl rfl ?_
  refine zV_blk (pc' := 2) (lo' := [(0, .ref a0), (1, .int x1), (2, .int x2), (3, .int x3), (4, .int x4)]) (st' := [.int x2, .int x1]) [.iload_n 1, .iload_n 2] (by decide +kernel) rfl ?_
  obtain ⟨v1, hv1, h⟩ := zbind h
  refine zV_roS (idx := 407) (rest := []) (fun Q2 hQ2 => ck_isShare s0 D cB cI cJ cD x1 x2  v1 hv1  hQ2) oX11_isShare (zT_mem 1399 (by decide +kernel) rfl) (zT_mem 1400 (by decide +kernel) rfl) rfl rfl (Nat.le_of_ble_eq_true rfl) ⟨by decide, by decide⟩ (by decide +kernel) ?_
  refine zV_eq (st2 := [.int (zb v1)]) rfl rfl rfl rfl ?_
  refine zV_bif_eq (tgt := 12) (off := 7) (by decide +kernel) (by decide) (fun q => ?_) (fun q => ?_)
  · replace h := zif_neg q h
    clear q
    refine zV_less (mc' := 0) (ms' := 0) (by decide) (by decide) ?_
    refine zV_ldc2 (idx := 164) (v := (-1000000000000000)) (zT_mem 681 (by decide +kernel) rfl) (by decide +kernel) ?_
    obtain rfl := Option.some.inj h
    exact zV_lret rfl (by decide +kernel) (hQ _ rfl _ _ hXX)
  · replace h := zif_pos q h
    clear q
    refine zV_blk (pc' := 9) (lo' := [(0, .ref a0), (1, .int x1), (2, .int x2), (3, .int x3), (4, .int x4)]) (st' := [.int x3]) [.iload_n 3] (by decide +kernel) rfl ?_
    refine zV_if_ge (tgt := 16) (off := 7) (by decide +kernel) (by decide) (fun q => ?_) (fun q => ?_)
    · replace h := zif_pos q h
      clear q
      refine zV_blk (pc' := 21) (lo' := [(0, .ref a0), (1, .int x1), (2, .int x2), (3, .int x3), (4, .int x4)]) (st' := [.int x3, .long (x2 : Int32).toInt64, .long (x1 : Int32).toInt64]) [.iload_n 1, .i2l, .iload_n 2, .i2l, .iload_n 3] (by decide +kernel) rfl ?_
      obtain ⟨v2, hv2, h⟩ := zbind h
      refine zV_alS (mc := 0) (ms := 0) (fun hi' v' => zOp (iFra hi') v' v2) (idx := 417) (rest := []) (fun Q2 hQ2 => ck_ofTerms s0 D cB cI cJ cD (x1 : Int32).toInt64 (x2 : Int32).toInt64 x3 v2 hv2 (fun v' hi' nx' hX hr => hQ2 _ _ _ hX hr)) oX2_ofTerms (zT_mem 1424 (by decide +kernel) rfl) (zT_mem 1425 (by decide +kernel) rfl) rfl rfl (Nat.le_of_ble_eq_true rfl) ⟨by decide, by decide⟩ (by decide +kernel) ?_
      rintro _ hi2 nx6 hX (⟨rfl, hx⟩ | ⟨b3, z4, rfl, hx, ho5⟩)
      · subst hx; replace h := zOm_none h
        replace ho0 := ho0.mono hX
        replace hXX := hXX.tr hX; clear hX
        refine zV_eq (st2 := [.null]) rfl rfl rfl rfl ?_
        refine zV_blk (pc' := 28) (lo' := [(5, .null), (0, .ref a0), (1, .int x1), (2, .int x2), (3, .int x3), (4, .int x4)]) (st' := [.null]) [.astore 5, .aload 5] (by decide +kernel) rfl ?_
        refine zV_ifnonnull (r := none) (tgt := 37) (off := 9) (by decide +kernel) (by decide) (fun _ q => by cases q) (fun _ => ?_)
        refine zV_ldc2 (idx := 164) (v := (-1000000000000000)) (zT_mem 681 (by decide +kernel) rfl) (by decide +kernel) ?_
        refine zV_goto (tgt := 44) (off := 10) (by decide +kernel) (by decide) ?_
        obtain rfl := Option.some.inj h
        exact zV_lret rfl (by decide +kernel) (hQ _ rfl _ _ hXX)
      · subst hx; replace h := zOm_some h
        replace ho0 := ho0.mono hX
        replace hXX := hXX.tr hX; clear hX
        refine zV_eq (st2 := [.ref b3]) rfl rfl rfl rfl ?_
        refine zV_blk (pc' := 28) (lo' := [(5, .ref b3), (0, .ref a0), (1, .int x1), (2, .int x2), (3, .int x3), (4, .int x4)]) (st' := [.ref b3]) [.astore 5, .aload 5] (by decide +kernel) rfl ?_
        refine zV_ifnonnull (r := some b3) (tgt := 37) (off := 9) (by decide +kernel) (by decide) (fun _ _ => ?_) (fun q => by cases q)
        refine zV_blk (pc' := 41) (lo' := [(5, .ref b3), (0, .ref a0), (1, .int x1), (2, .int x2), (3, .int x3), (4, .int x4)]) (st' := [.int x4, .ref b3]) [.aload 5, .iload 4] (by decide +kernel) rfl ?_
        obtain ⟨v7, hv7, h⟩ := zbind h
        refine zV_roV (idx := 179) (rest := []) (fs := [.long z4.1, .long z4.2]) (ci := 2) (fun Q2 hQ2 => ck_tellPart s0 D cB cI cJ cD z4 x4 b3 v7 hv7 ho5 hQ2) oX2_tellPart (Or.inl ho5) rfl (zT_mem 724 (by decide +kernel) rfl) (zT_mem 725 (by decide +kernel) rfl) (zT_mem 726 (by decide +kernel) rfl) rfl rfl (Nat.le_of_ble_eq_true rfl) ⟨by decide, by decide⟩ (by decide +kernel) ?_
        refine zV_eq (st2 := [.long v7]) rfl rfl rfl rfl ?_
        obtain rfl := Option.some.inj h
        exact zV_lret rfl (by decide +kernel) (hQ _ rfl _ _ hXX)
    · replace h := zif_neg q h
      clear q
      refine zV_less (mc' := 0) (ms' := 0) (by decide) (by decide) ?_
      refine zV_ldc2 (idx := 164) (v := (-1000000000000000)) (zT_mem 681 (by decide +kernel) rfl) (by decide +kernel) ?_
      obtain rfl := Option.some.inj h
      exact zV_lret rfl (by decide +kernel) (hQ _ rfl _ _ hXX)

