def l_taken (n : Nat) (x0 : (Nat → Option vDes)) (x1 : Int32) (x2 : Int64) (x4 : Int32) (x5 : Int32) (x6 : Int32) : Option (Int64) := (k_designAt x0 x1).bind (fun v1 => zOm v1 ((k_designAt x0 x4).bind (fun v5 => zOm v5 (some (-1000000000000000)) (fun z7 => some (-1000000000000000)))) (fun z3 => (k_designAt x0 x4).bind (fun v9 => zOm v9 (some (-1000000000000000)) (fun z11 => (k_holds n z3 x2).bind (fun v13 => (if v13 = true then (if (x5 : Int32) < ((-1000000) : Int32) then some (-1000000000000000) else (if (x5 : Int32) ≤ (1000000 : Int32) then (k_tellDate n z11 (x2 + (x5 : Int32).toInt64) x6).bind (fun v21 => some v21) else some (-1000000000000000))) else some (-1000000000000000)))))))
theorem oX11_taken : zO yX11_taken cX11_taken 9 (some .long) 5 := ⟨zT_mem 1107 (by decide +kernel) rfl, zT_mem 89 (by decide +kernel) rfl, by decide +kernel, by decide +kernel, by decide +kernel⟩
set_option maxHeartbeats 4000000 in
set_option maxRecDepth 100000 in
theorem cl_taken (s0 : State) (D : va_G) (cB cI cJ cD : ClassId) (n : Nat) (x0 : (Nat → Option vDes)) (x1 : Int32) (x2 : Int64) (x4 : Int32) (x5 : Int32) (x6 : Int32) (a0 : Nat) (x : Int64) (h : l_taken n x0 x1 x2 x4 x5 x6 = some x) {hi hm : zHp} {nx : Nat} {Q : Option Value → zHp → zHp → Nat → Prop} (ho0 : iLD cI cD hi hm a0 x0) (hQ0 : ∀ (hi' : zHp) (nx' : Nat), zX hi hi' → Q (some (.long x)) hi' hm nx') : zM s0 D (zty cB cI cJ cD) yX11_taken cX11_taken 9 (some .long) 5 118 0 0 [.ref a0, .int x1, .long x2, .int x4, .int x5, .int x6] hi hm nx Q := by
  have hQ : ∀ r : Int64, x = r → ∀ (hi' : zHp) (nx' : Nat), zX hi hi' → Q (some (.long r)) hi' hm nx' := fun r hr => by subst hr; exact hQ0
  clear hQ0
  have hXX : zX hi hi := zX.rf
  refine zM_of (by decide +kernel) (Nat.le_of_ble_eq_true rfl) ?_
  unfold l_taken at h
  refine zV_eq (lo2 := [(0, .ref a0), (1, .int x1), (2, .long x2), (4, .int x4), (5, .int x5), (6, .int x6)]) rfl rfl rfl rfl ?_
  refine zV_blk (pc' := 2) (lo' := [(0, .ref a0), (1, .int x1), (2, .long x2), (4, .int x4), (5, .int x5), (6, .int x6)]) (st' := [.int x1, .ref a0]) [.aload_n 0, .iload_n 1] (by decide +kernel) rfl ?_
  obtain ⟨v1, hv1, h⟩ := zbind h
  refine zV_designAt (idx := 105) (rest := []) v1 hv1 ho0 (zT_mem 603 (by decide +kernel) rfl) rfl (Nat.le_of_ble_eq_true rfl) ⟨by decide, by decide⟩ (by decide +kernel) (fun hx => ?_) (fun b2 z3 hx ho4 => ?_)
  · subst hx; replace h := zOm_none h
    refine zV_blk (pc' := 10) (lo' := [(7, .null), (0, .ref a0), (1, .int x1), (2, .long x2), (4, .int x4), (5, .int x5), (6, .int x6)]) (st' := [.int x4, .ref a0]) [.astore 7, .aload_n 0, .iload 4] (by decide +kernel) rfl ?_
    obtain ⟨v5, hv5, h⟩ := zbind h
    refine zV_designAt (idx := 105) (rest := []) v5 hv5 ho0 (zT_mem 603 (by decide +kernel) rfl) rfl (Nat.le_of_ble_eq_true rfl) ⟨by decide, by decide⟩ (by decide +kernel) (fun hx => ?_) (fun b6 z7 hx ho8 => ?_)
    · subst hx; replace h := zOm_none h
      refine zV_blk (pc' := 17) (lo' := [(8, .null), (7, .null), (0, .ref a0), (1, .int x1), (2, .long x2), (4, .int x4), (5, .int x5), (6, .int x6)]) (st' := [.null]) [.astore 8, .aload 7] (by decide +kernel) rfl ?_
      refine zV_ifnull (r := none) (tgt := 34) (off := 17) (by decide +kernel) (by decide) (fun _ => ?_) (fun _ q => by cases q)
      refine zV_ldc2 (idx := 164) (v := (-1000000000000000)) (zT_mem 681 (by decide +kernel) rfl) (by decide +kernel) ?_
      obtain rfl := Option.some.inj h
      exact zV_lret rfl (by decide +kernel) (hQ _ rfl _ _ hXX)
    · subst hx; replace h := zOm_some h
      refine zV_blk (pc' := 17) (lo' := [(8, .ref b6), (7, .null), (0, .ref a0), (1, .int x1), (2, .long x2), (4, .int x4), (5, .int x5), (6, .int x6)]) (st' := [.null]) [.astore 8, .aload 7] (by decide +kernel) rfl ?_
      refine zV_ifnull (r := none) (tgt := 34) (off := 17) (by decide +kernel) (by decide) (fun _ => ?_) (fun _ q => by cases q)
      refine zV_ldc2 (idx := 164) (v := (-1000000000000000)) (zT_mem 681 (by decide +kernel) rfl) (by decide +kernel) ?_
      obtain rfl := Option.some.inj h
      exact zV_lret rfl (by decide +kernel) (hQ _ rfl _ _ hXX)
  · subst hx; replace h := zOm_some h
    refine zV_blk (pc' := 10) (lo' := [(7, .ref b2), (0, .ref a0), (1, .int x1), (2, .long x2), (4, .int x4), (5, .int x5), (6, .int x6)]) (st' := [.int x4, .ref a0]) [.astore 7, .aload_n 0, .iload 4] (by decide +kernel) rfl ?_
    obtain ⟨v9, hv9, h⟩ := zbind h
    refine zV_designAt (idx := 105) (rest := []) v9 hv9 ho0 (zT_mem 603 (by decide +kernel) rfl) rfl (Nat.le_of_ble_eq_true rfl) ⟨by decide, by decide⟩ (by decide +kernel) (fun hx => ?_) (fun b10 z11 hx ho12 => ?_)
    · subst hx; replace h := zOm_none h
      refine zV_blk (pc' := 17) (lo' := [(8, .null), (7, .ref b2), (0, .ref a0), (1, .int x1), (2, .long x2), (4, .int x4), (5, .int x5), (6, .int x6)]) (st' := [.ref b2]) [.astore 8, .aload 7] (by decide +kernel) rfl ?_
      refine zV_ifnull (r := some b2) (tgt := 34) (off := 17) (by decide +kernel) (by decide) (fun q => by cases q) (fun _ _ => ?_)
      refine zV_blk (pc' := 22) (lo' := [(8, .null), (7, .ref b2), (0, .ref a0), (1, .int x1), (2, .long x2), (4, .int x4), (5, .int x5), (6, .int x6)]) (st' := [.null]) [.aload 8] (by decide +kernel) rfl ?_
      refine zV_ifnull (r := none) (tgt := 34) (off := 12) (by decide +kernel) (by decide) (fun _ => ?_) (fun _ q => by cases q)
      refine zV_ldc2 (idx := 164) (v := (-1000000000000000)) (zT_mem 681 (by decide +kernel) rfl) (by decide +kernel) ?_
      obtain rfl := Option.some.inj h
      exact zV_lret rfl (by decide +kernel) (hQ _ rfl _ _ hXX)
    · subst hx; replace h := zOm_some h
      refine zV_blk (pc' := 17) (lo' := [(8, .ref b10), (7, .ref b2), (0, .ref a0), (1, .int x1), (2, .long x2), (4, .int x4), (5, .int x5), (6, .int x6)]) (st' := [.ref b2]) [.astore 8, .aload 7] (by decide +kernel) rfl ?_
      refine zV_ifnull (r := some b2) (tgt := 34) (off := 17) (by decide +kernel) (by decide) (fun q => by cases q) (fun _ _ => ?_)
      refine zV_blk (pc' := 22) (lo' := [(8, .ref b10), (7, .ref b2), (0, .ref a0), (1, .int x1), (2, .long x2), (4, .int x4), (5, .int x5), (6, .int x6)]) (st' := [.ref b10]) [.aload 8] (by decide +kernel) rfl ?_
      refine zV_ifnull (r := some b10) (tgt := 34) (off := 12) (by decide +kernel) (by decide) (fun q => by cases q) (fun _ _ => ?_)
      refine zV_blk (pc' := 28) (lo' := [(8, .ref b10), (7, .ref b2), (0, .ref a0), (1, .int x1), (2, .long x2), (4, .int x4), (5, .int x5), (6, .int x6)]) (st' := [.long x2, .ref b2]) [.aload 7, .lload_n 2] (by decide +kernel) rfl ?_
      obtain ⟨v13, hv13, h⟩ := zbind h
      obtain ⟨b14, b15, b16, hc17, hc18, hc19, hc20⟩ := ho4
      refine zV_roV (idx := 248) (rest := []) (fs := [.ref b14, .ref b15, .ref b16]) (ci := 0) (fun Q2 hQ2 => ck_holds s0 D cB cI cJ cD n z3 x2 b2 v13 hv13 ⟨b14, b15, b16, hc17, hc18, hc19, hc20⟩ hQ2) oX0_holds (Or.inl hc17) rfl (zT_mem 1108 (by decide +kernel) rfl) (zT_mem 1059 (by decide +kernel) rfl) (zT_mem 1060 (by decide +kernel) rfl) rfl rfl (Nat.le_of_ble_eq_true rfl) ⟨by decide, by decide⟩ (by decide +kernel) ?_
      refine zV_eq (st2 := [.int (zb v13)]) rfl rfl rfl rfl ?_
      refine zV_bif_ne (tgt := 38) (off := 7) (by decide +kernel) (by decide) (fun q => ?_) (fun q => ?_)
      · replace h := zif_pos q h
        clear q
        refine zV_blk (pc' := 40) (lo' := [(8, .ref b10), (7, .ref b2), (0, .ref a0), (1, .int x1), (2, .long x2), (4, .int x4), (5, .int x5), (6, .int x6)]) (st' := [.int x5]) [.iload 5] (by decide +kernel) rfl ?_
        refine zV_ldc (idx := 252) (v := (-1000000)) (zT_mem 1109 (by decide +kernel) rfl) (by decide +kernel) ?_
        refine zV_icmp_lt (tgt := 52) (off := 10) (by decide +kernel) (by decide) (fun q => ?_) (fun q => ?_)
        · replace h := zif_pos q h
          clear q
          refine zV_ldc2 (idx := 164) (v := (-1000000000000000)) (zT_mem 681 (by decide +kernel) rfl) (by decide +kernel) ?_
          obtain rfl := Option.some.inj h
          exact zV_lret rfl (by decide +kernel) (hQ _ rfl _ _ hXX)
        · replace h := zif_neg q h
          clear q
          refine zV_blk (pc' := 47) (lo' := [(8, .ref b10), (7, .ref b2), (0, .ref a0), (1, .int x1), (2, .long x2), (4, .int x4), (5, .int x5), (6, .int x6)]) (st' := [.int x5]) [.iload 5] (by decide +kernel) rfl ?_
          refine zV_ldc (idx := 192) (v := 1000000) (zT_mem 752 (by decide +kernel) rfl) (by decide +kernel) ?_
          refine zV_icmp_le (tgt := 56) (off := 7) (by decide +kernel) (by decide) (fun q => ?_) (fun q => ?_)
          · replace h := zif_pos q h
            clear q
            refine zV_blk (pc' := 65) (lo' := [(8, .ref b10), (7, .ref b2), (0, .ref a0), (1, .int x1), (2, .long x2), (4, .int x4), (5, .int x5), (6, .int x6)]) (st' := [.int x6, .long (x2 + (x5 : Int32).toInt64), .ref b10]) [.aload 8, .lload_n 2, .iload 5, .i2l, .ladd, .iload 6] (by decide +kernel) rfl ?_
            obtain ⟨v21, hv21, h⟩ := zbind h
            obtain ⟨b22, b23, b24, hc25, hc26, hc27, hc28⟩ := ho12
            refine zV_roV (idx := 236) (rest := []) (fs := [.ref b22, .ref b23, .ref b24]) (ci := 0) (fun Q2 hQ2 => ck_tellDate s0 D cB cI cJ cD n z11 (x2 + (x5 : Int32).toInt64) x6 b10 v21 hv21 ⟨b22, b23, b24, hc25, hc26, hc27, hc28⟩ hQ2) oX0_tellDate (Or.inl hc25) rfl (zT_mem 1054 (by decide +kernel) rfl) (zT_mem 1055 (by decide +kernel) rfl) (zT_mem 1056 (by decide +kernel) rfl) rfl rfl (Nat.le_of_ble_eq_true rfl) ⟨by decide, by decide⟩ (by decide +kernel) ?_
            refine zV_eq (st2 := [.long v21]) rfl rfl rfl rfl ?_
            obtain rfl := Option.some.inj h
            exact zV_lret rfl (by decide +kernel) (hQ _ rfl _ _ hXX)
          · replace h := zif_neg q h
            clear q
            refine zV_ldc2 (idx := 164) (v := (-1000000000000000)) (zT_mem 681 (by decide +kernel) rfl) (by decide +kernel) ?_
            obtain rfl := Option.some.inj h
            exact zV_lret rfl (by decide +kernel) (hQ _ rfl _ _ hXX)
      · replace h := zif_neg q h
        clear q
        refine zV_ldc2 (idx := 164) (v := (-1000000000000000)) (zT_mem 681 (by decide +kernel) rfl) (by decide +kernel) ?_
        obtain rfl := Option.some.inj h
        exact zV_lret rfl (by decide +kernel) (hQ _ rfl _ _ hXX)

def l_drift (n : Nat) (x0 : (Nat → Option vDes)) (x1 : Int32) (x2 : Int32) (x3 : Int32) : Option (Int64) := (k_designAt x0 x1).bind (fun v1 => zOm v1 (some (-1000000000000000)) (fun z3 => (k_isYear x2).bind (fun v5 => (if v5 = true then (k_driftOf n z3 x2).bind (fun v6 => (k_tellPart v6 x3).bind (fun v17 => some v17)) else some (-1000000000000000)))))
theorem oX11_drift : zO yX11_drift cX11_drift 5 (some .long) 3 := ⟨zT_mem 1113 (by decide +kernel) rfl, zT_mem 89 (by decide +kernel) rfl, by decide +kernel, by decide +kernel, by decide +kernel⟩
set_option maxHeartbeats 4000000 in
set_option maxRecDepth 100000 in
theorem cl_drift (s0 : State) (D : va_G) (cB cI cJ cD : ClassId) (n : Nat) (x0 : (Nat → Option vDes)) (x1 : Int32) (x2 : Int32) (x3 : Int32) (a0 : Nat) (x : Int64) (h : l_drift n x0 x1 x2 x3 = some x) {hi hm : zHp} {nx : Nat} {Q : Option Value → zHp → zHp → Nat → Prop} (ho0 : iLD cI cD hi hm a0 x0) (hQ0 : ∀ (hi' : zHp) (nx' : Nat), zX hi hi' → Q (some (.long x)) hi' hm nx') : zM s0 D (zty cB cI cJ cD) yX11_drift cX11_drift 5 (some .long) 6 130 1 2 [.ref a0, .int x1, .int x2, .int x3] hi hm nx Q := by
  have hQ : ∀ r : Int64, x = r → ∀ (hi' : zHp) (nx' : Nat), zX hi hi' → Q (some (.long r)) hi' hm nx' := fun r hr => by subst hr; exact hQ0
  clear hQ0
  have hXX : zX hi hi := zX.rf
  refine zM_of (by decide +kernel) (Nat.le_of_ble_eq_true rfl) ?_
  unfold l_drift at h
  refine zV_eq (lo2 := [(0, .ref a0), (1, .int x1), (2, .int x2), (3, .int x3)]) rfl rfl rfl rfl ?_
  refine zV_blk (pc' := 2) (lo' := [(0, .ref a0), (1, .int x1), (2, .int x2), (3, .int x3)]) (st' := [.int x1, .ref a0]) [.aload_n 0, .iload_n 1] (by decide +kernel) rfl ?_
  obtain ⟨v1, hv1, h⟩ := zbind h
  refine zV_designAt (idx := 105) (rest := []) v1 hv1 ho0 (zT_mem 603 (by decide +kernel) rfl) rfl (Nat.le_of_ble_eq_true rfl) ⟨by decide, by decide⟩ (by decide +kernel) (fun hx => ?_) (fun b2 z3 hx ho4 => ?_)
  · subst hx; replace h := zOm_none h
    refine zV_blk (pc' := 9) (lo' := [(4, .null), (0, .ref a0), (1, .int x1), (2, .int x2), (3, .int x3)]) (st' := [.null]) [.astore 4, .aload 4] (by decide +kernel) rfl ?_
    refine zV_ifnull (r := none) (tgt := 19) (off := 10) (by decide +kernel) (by decide) (fun _ => ?_) (fun _ q => by cases q)
    refine zV_less (mc' := 0) (ms' := 0) (by decide) (by decide) ?_
    refine zV_ldc2 (idx := 164) (v := (-1000000000000000)) (zT_mem 681 (by decide +kernel) rfl) (by decide +kernel) ?_
    obtain rfl := Option.some.inj h
    exact zV_lret rfl (by decide +kernel) (hQ _ rfl _ _ hXX)
  · subst hx; replace h := zOm_some h
    refine zV_blk (pc' := 9) (lo' := [(4, .ref b2), (0, .ref a0), (1, .int x1), (2, .int x2), (3, .int x3)]) (st' := [.ref b2]) [.astore 4, .aload 4] (by decide +kernel) rfl ?_
    refine zV_ifnull (r := some b2) (tgt := 19) (off := 10) (by decide +kernel) (by decide) (fun q => by cases q) (fun _ _ => ?_)
    refine zV_blk (pc' := 13) (lo' := [(4, .ref b2), (0, .ref a0), (1, .int x1), (2, .int x2), (3, .int x3)]) (st' := [.int x2]) [.iload_n 2] (by decide +kernel) rfl ?_
    obtain ⟨v5, hv5, h⟩ := zbind h
    refine zV_roS (idx := 220) (rest := []) (fun Q2 hQ2 => ck_isYear s0 D cB cI cJ cD x2  v5 hv5  hQ2) oX11_isYear (zT_mem 1009 (by decide +kernel) rfl) (zT_mem 1010 (by decide +kernel) rfl) rfl rfl (Nat.le_of_ble_eq_true rfl) ⟨by decide, by decide⟩ (by decide +kernel) ?_
    refine zV_eq (st2 := [.int (zb v5)]) rfl rfl rfl rfl ?_
    refine zV_bif_ne (tgt := 23) (off := 7) (by decide +kernel) (by decide) (fun q => ?_) (fun q => ?_)
    · replace h := zif_pos q h
      clear q
      refine zV_blk (pc' := 26) (lo' := [(4, .ref b2), (0, .ref a0), (1, .int x1), (2, .int x2), (3, .int x3)]) (st' := [.int x2, .ref b2]) [.aload 4, .iload_n 2] (by decide +kernel) rfl ?_
      obtain ⟨v6, hv6, h⟩ := zbind h
      obtain ⟨b7, b8, b9, hc10, hc11, hc12, hc13⟩ := ho4
      refine zV_alV (mc := 0) (ms := 0) (fun hi' v' => ∃ a' : Nat, v' = some (.ref a') ∧ iFra hi' a' v6) (idx := 253) (rest := []) (fs := [.ref b7, .ref b8, .ref b9]) (ci := 0) (fun Q2 hQ2 => ck_driftOf s0 D cB cI cJ cD n z3 x2 b2 v6 hv6 ⟨b7, b8, b9, hc10, hc11, hc12, hc13⟩ (fun a' hi' nx' hX hr => hQ2 _ _ _ hX ⟨a', rfl, hr⟩)) oX0_driftOf (Or.inl hc10) rfl (zT_mem 1114 (by decide +kernel) rfl) (zT_mem 1115 (by decide +kernel) rfl) (zT_mem 1116 (by decide +kernel) rfl) rfl rfl (Nat.le_of_ble_eq_true rfl) ⟨by decide, by decide⟩ (by decide +kernel) ?_
      rintro _ hi2 nx16 hX ⟨b14, rfl, ho15⟩
      replace hc10 := hX _ _ hc10
      replace hc11 := hc11.mono hX
      replace hc12 := hc12.mono hX
      replace hc13 := hc13.mono hX
      replace ho0 := ho0.mono hX
      replace hXX := hXX.tr hX; clear hX
      refine zV_eq (st2 := [.ref b14]) rfl rfl rfl rfl ?_
      refine zV_blk (pc' := 30) (lo' := [(4, .ref b2), (0, .ref a0), (1, .int x1), (2, .int x2), (3, .int x3)]) (st' := [.int x3, .ref b14]) [.iload_n 3] (by decide +kernel) rfl ?_
      obtain ⟨v17, hv17, h⟩ := zbind h
      refine zV_roV (idx := 179) (rest := []) (fs := [.long v6.1, .long v6.2]) (ci := 2) (fun Q2 hQ2 => ck_tellPart s0 D cB cI cJ cD v6 x3 b14 v17 hv17 ho15 hQ2) oX2_tellPart (Or.inl ho15) rfl (zT_mem 724 (by decide +kernel) rfl) (zT_mem 725 (by decide +kernel) rfl) (zT_mem 726 (by decide +kernel) rfl) rfl rfl (Nat.le_of_ble_eq_true rfl) ⟨by decide, by decide⟩ (by decide +kernel) ?_
      refine zV_eq (st2 := [.long v17]) rfl rfl rfl rfl ?_
      obtain rfl := Option.some.inj h
      exact zV_lret rfl (by decide +kernel) (hQ _ rfl _ _ hXX)
    · replace h := zif_neg q h
      clear q
      refine zV_less (mc' := 0) (ms' := 0) (by decide) (by decide) ?_
      refine zV_ldc2 (idx := 164) (v := (-1000000000000000)) (zT_mem 681 (by decide +kernel) rfl) (by decide +kernel) ?_
      obtain rfl := Option.some.inj h
      exact zV_lret rfl (by decide +kernel) (hQ _ rfl _ _ hXX)

def l_extreme (n : Nat) (x0 : (Nat → Option vDes)) (x1 : Int32) (x2 : Int32) (x3 : Int32) (x4 : Int32) (x5 : Int32) : Option (Int64) := (k_designAt x0 x1).bind (fun v1 => zOm v1 (some (-1000000000000000)) (fun z3 => (k_isWalk x2 x3).bind (fun v5 => (if v5 = true then (k_extremeYear n z3 x2 x3 x4).bind (fun v6 => (if (x5 : Int32) = (2 : Int32) then some (v6 : Int32).toInt64 else (k_driftOf n z3 v6).bind (fun v14 => (k_tellPart v14 x5).bind (fun v18 => some v18)))) else some (-1000000000000000)))))
theorem oX11_extreme : zO yX11_extreme cX11_extreme 8 (some .long) 5 := ⟨zT_mem 1141 (by decide +kernel) rfl, zT_mem 89 (by decide +kernel) rfl, by decide +kernel, by decide +kernel, by decide +kernel⟩
set_option maxHeartbeats 4000000 in
set_option maxRecDepth 100000 in
theorem cl_extreme (s0 : State) (D : va_G) (cB cI cJ cD : ClassId) (n : Nat) (x0 : (Nat → Option vDes)) (x1 : Int32) (x2 : Int32) (x3 : Int32) (x4 : Int32) (x5 : Int32) (a0 : Nat) (x : Int64) (h : l_extreme n x0 x1 x2 x3 x4 x5 = some x) {hi hm : zHp} {nx : Nat} {Q : Option Value → zHp → zHp → Nat → Prop} (ho0 : iLD cI cD hi hm a0 x0) (hQ0 : ∀ (hi' : zHp) (nx' : Nat), zX hi hi' → Q (some (.long x)) hi' hm nx') : zM s0 D (zty cB cI cJ cD) yX11_extreme cX11_extreme 8 (some .long) 6 142 1 2 [.ref a0, .int x1, .int x2, .int x3, .int x4, .int x5] hi hm nx Q := by
  have hQ : ∀ r : Int64, x = r → ∀ (hi' : zHp) (nx' : Nat), zX hi hi' → Q (some (.long r)) hi' hm nx' := fun r hr => by subst hr; exact hQ0
  clear hQ0
  have hXX : zX hi hi := zX.rf
  refine zM_of (by decide +kernel) (Nat.le_of_ble_eq_true rfl) ?_
  unfold l_extreme at h
  refine zV_eq (lo2 := [(0, .ref a0), (1, .int x1), (2, .int x2), (3, .int x3), (4, .int x4), (5, .int x5)]) rfl rfl rfl rfl ?_
  refine zV_blk (pc' := 2) (lo' := [(0, .ref a0), (1, .int x1), (2, .int x2), (3, .int x3), (4, .int x4), (5, .int x5)]) (st' := [.int x1, .ref a0]) [.aload_n 0, .iload_n 1] (by decide +kernel) rfl ?_
  obtain ⟨v1, hv1, h⟩ := zbind h
  refine zV_designAt (idx := 105) (rest := []) v1 hv1 ho0 (zT_mem 603 (by decide +kernel) rfl) rfl (Nat.le_of_ble_eq_true rfl) ⟨by decide, by decide⟩ (by decide +kernel) (fun hx => ?_) (fun b2 z3 hx ho4 => ?_)
  · subst hx; replace h := zOm_none h
    refine zV_blk (pc' := 9) (lo' := [(6, .null), (0, .ref a0), (1, .int x1), (2, .int x2), (3, .int x3), (4, .int x4), (5, .int x5)]) (st' := [.null]) [.astore 6, .aload 6] (by decide +kernel) rfl ?_
    refine zV_ifnull (r := none) (tgt := 20) (off := 11) (by decide +kernel) (by decide) (fun _ => ?_) (fun _ q => by cases q)
    refine zV_less (mc' := 0) (ms' := 0) (by decide) (by decide) ?_
    refine zV_ldc2 (idx := 164) (v := (-1000000000000000)) (zT_mem 681 (by decide +kernel) rfl) (by decide +kernel) ?_
    obtain rfl := Option.some.inj h
    exact zV_lret rfl (by decide +kernel) (hQ _ rfl _ _ hXX)
  · subst hx; replace h := zOm_some h
    refine zV_blk (pc' := 9) (lo' := [(6, .ref b2), (0, .ref a0), (1, .int x1), (2, .int x2), (3, .int x3), (4, .int x4), (5, .int x5)]) (st' := [.ref b2]) [.astore 6, .aload 6] (by decide +kernel) rfl ?_
    refine zV_ifnull (r := some b2) (tgt := 20) (off := 11) (by decide +kernel) (by decide) (fun q => by cases q) (fun _ _ => ?_)
    refine zV_blk (pc' := 14) (lo' := [(6, .ref b2), (0, .ref a0), (1, .int x1), (2, .int x2), (3, .int x3), (4, .int x4), (5, .int x5)]) (st' := [.int x3, .int x2]) [.iload_n 2, .iload_n 3] (by decide +kernel) rfl ?_
    obtain ⟨v5, hv5, h⟩ := zbind h
    refine zV_roS (idx := 257) (rest := []) (fun Q2 hQ2 => ck_isWalk s0 D cB cI cJ cD x2 x3  v5 hv5  hQ2) oX11_isWalk (zT_mem 1142 (by decide +kernel) rfl) (zT_mem 1143 (by decide +kernel) rfl) rfl rfl (Nat.le_of_ble_eq_true rfl) ⟨by decide, by decide⟩ (by decide +kernel) ?_
    refine zV_eq (st2 := [.int (zb v5)]) rfl rfl rfl rfl ?_
    refine zV_bif_ne (tgt := 24) (off := 7) (by decide +kernel) (by decide) (fun q => ?_) (fun q => ?_)
    · replace h := zif_pos q h
      clear q
      refine zV_blk (pc' := 30) (lo' := [(6, .ref b2), (0, .ref a0), (1, .int x1), (2, .int x2), (3, .int x3), (4, .int x4), (5, .int x5)]) (st' := [.int x4, .int x3, .int x2, .ref b2]) [.aload 6, .iload_n 2, .iload_n 3, .iload 4] (by decide +kernel) rfl ?_
      obtain ⟨v6, hv6, h⟩ := zbind h
      obtain ⟨b7, b8, b9, hc10, hc11, hc12, hc13⟩ := ho4
      refine zV_roV (idx := 261) (rest := []) (fs := [.ref b7, .ref b8, .ref b9]) (ci := 0) (fun Q2 hQ2 => ck_extremeYear s0 D cB cI cJ cD n z3 x2 x3 x4 b2 v6 hv6 ⟨b7, b8, b9, hc10, hc11, hc12, hc13⟩ hQ2) oX0_extremeYear (Or.inl hc10) rfl (zT_mem 1145 (by decide +kernel) rfl) (zT_mem 1146 (by decide +kernel) rfl) (zT_mem 1147 (by decide +kernel) rfl) rfl rfl (Nat.le_of_ble_eq_true rfl) ⟨by decide, by decide⟩ (by decide +kernel) ?_
      refine zV_eq (st2 := [.int v6]) rfl rfl rfl rfl ?_
      refine zV_blk (pc' := 38) (lo' := [(7, .int v6), (6, .ref b2), (0, .ref a0), (1, .int x1), (2, .int x2), (3, .int x3), (4, .int x4), (5, .int x5)]) (st' := [.int 2, .int x5]) [.istore 7, .iload 5, .iconst 2] (by decide +kernel) rfl ?_
      refine zV_icmp_ne (tgt := 47) (off := 9) (by decide +kernel) (by decide) (fun q => ?_) (fun q => ?_)
      · replace h := zif_neg q h
        clear q
        refine zV_blk (pc' := 51) (lo' := [(7, .int v6), (6, .ref b2), (0, .ref a0), (1, .int x1), (2, .int x2), (3, .int x3), (4, .int x4), (5, .int x5)]) (st' := [.int v6, .ref b2]) [.aload 6, .iload 7] (by decide +kernel) rfl ?_
        obtain ⟨v14, hv14, h⟩ := zbind h
        refine zV_alV (mc := 0) (ms := 0) (fun hi' v' => ∃ a' : Nat, v' = some (.ref a') ∧ iFra hi' a' v14) (idx := 253) (rest := []) (fs := [.ref b7, .ref b8, .ref b9]) (ci := 0) (fun Q2 hQ2 => ck_driftOf s0 D cB cI cJ cD n z3 v6 b2 v14 hv14 ⟨b7, b8, b9, hc10, hc11, hc12, hc13⟩ (fun a' hi' nx' hX hr => hQ2 _ _ _ hX ⟨a', rfl, hr⟩)) oX0_driftOf (Or.inl hc10) rfl (zT_mem 1114 (by decide +kernel) rfl) (zT_mem 1115 (by decide +kernel) rfl) (zT_mem 1116 (by decide +kernel) rfl) rfl rfl (Nat.le_of_ble_eq_true rfl) ⟨by decide, by decide⟩ (by decide +kernel) ?_
        rintro _ hi2 nx17 hX ⟨b15, rfl, ho16⟩
        replace hc10 := hX _ _ hc10
        replace hc11 := hc11.mono hX
        replace hc12 := hc12.mono hX
        replace hc13 := hc13.mono hX
        replace ho0 := ho0.mono hX
        replace hXX := hXX.tr hX; clear hX
        refine zV_eq (st2 := [.ref b15]) rfl rfl rfl rfl ?_
        refine zV_blk (pc' := 56) (lo' := [(7, .int v6), (6, .ref b2), (0, .ref a0), (1, .int x1), (2, .int x2), (3, .int x3), (4, .int x4), (5, .int x5)]) (st' := [.int x5, .ref b15]) [.iload 5] (by decide +kernel) rfl ?_
        obtain ⟨v18, hv18, h⟩ := zbind h
        refine zV_roV (idx := 179) (rest := []) (fs := [.long v14.1, .long v14.2]) (ci := 2) (fun Q2 hQ2 => ck_tellPart s0 D cB cI cJ cD v14 x5 b15 v18 hv18 ho16 hQ2) oX2_tellPart (Or.inl ho16) rfl (zT_mem 724 (by decide +kernel) rfl) (zT_mem 725 (by decide +kernel) rfl) (zT_mem 726 (by decide +kernel) rfl) rfl rfl (Nat.le_of_ble_eq_true rfl) ⟨by decide, by decide⟩ (by decide +kernel) ?_
        refine zV_eq (st2 := [.long v18]) rfl rfl rfl rfl ?_
        obtain rfl := Option.some.inj h
        exact zV_lret rfl (by decide +kernel) (hQ _ rfl _ _ hXX)
      · replace h := zif_pos q h
        clear q
        refine zV_less (mc' := 0) (ms' := 0) (by decide) (by decide) ?_
        refine zV_blk (pc' := 44) (lo' := [(7, .int v6), (6, .ref b2), (0, .ref a0), (1, .int x1), (2, .int x2), (3, .int x3), (4, .int x4), (5, .int x5)]) (st' := [.long (v6 : Int32).toInt64]) [.iload 7, .i2l] (by decide +kernel) rfl ?_
        refine zV_goto (tgt := 59) (off := 15) (by decide +kernel) (by decide) ?_
        obtain rfl := Option.some.inj h
        exact zV_lret rfl (by decide +kernel) (hQ _ rfl _ _ hXX)
    · replace h := zif_neg q h
      clear q
      refine zV_less (mc' := 0) (ms' := 0) (by decide) (by decide) ?_
      refine zV_ldc2 (idx := 164) (v := (-1000000000000000)) (zT_mem 681 (by decide +kernel) rfl) (by decide +kernel) ?_
      obtain rfl := Option.some.inj h
      exact zV_lret rfl (by decide +kernel) (hQ _ rfl _ _ hXX)

def l_passes (n : Nat) (x0 : (Nat → Option vDes)) (x1 : Int32) (x2 : Int32) : Option (Int32) := (k_designAt x0 x1).bind (fun v1 => zOm v1 (some (-1)) (fun z3 => (if (x2 : Int32) < (1 : Int32) then some (-1) else (if (x2 : Int32) ≤ (9999 : Int32) then (k_passingYear n z3 x2).bind (fun v5 => some v5) else some (-1)))))
theorem oX11_passes : zO yX11_passes cX11_passes 4 (some .int) 2 := ⟨zT_mem 1156 (by decide +kernel) rfl, zT_mem 89 (by decide +kernel) rfl, by decide +kernel, by decide +kernel, by decide +kernel⟩
set_option maxHeartbeats 4000000 in
set_option maxRecDepth 100000 in
theorem cl_passes (s0 : State) (D : va_G) (cB cI cJ cD : ClassId) (n : Nat) (x0 : (Nat → Option vDes)) (x1 : Int32) (x2 : Int32) (a0 : Nat) (x : Int32) (h : l_passes n x0 x1 x2 = some x) {hi hm : zHp} {nx : Nat} {Q : Option Value → zHp → zHp → Nat → Prop} (ho0 : iLD cI cD hi hm a0 x0) (hQ0 : ∀ (hi' : zHp) (nx' : Nat), zX hi hi' → Q (some (.int x)) hi' hm nx') : zM s0 D (zty cB cI cJ cD) yX11_passes cX11_passes 4 (some .int) 3 74 0 0 [.ref a0, .int x1, .int x2] hi hm nx Q := by
  have hQ : ∀ r : Int32, x = r → ∀ (hi' : zHp) (nx' : Nat), zX hi hi' → Q (some (.int r)) hi' hm nx' := fun r hr => by subst hr; exact hQ0
  clear hQ0
  have hXX : zX hi hi := zX.rf
  refine zM_of (by decide +kernel) (Nat.le_of_ble_eq_true rfl) ?_
  unfold l_passes at h
  refine zV_eq (lo2 := [(0, .ref a0), (1, .int x1), (2, .int x2)]) rfl rfl rfl rfl ?_
  refine zV_blk (pc' := 2) (lo' := [(0, .ref a0), (1, .int x1), (2, .int x2)]) (st' := [.int x1, .ref a0]) [.aload_n 0, .iload_n 1] (by decide +kernel) rfl ?_
  obtain ⟨v1, hv1, h⟩ := zbind h
  refine zV_designAt (idx := 105) (rest := []) v1 hv1 ho0 (zT_mem 603 (by decide +kernel) rfl) rfl (Nat.le_of_ble_eq_true rfl) ⟨by decide, by decide⟩ (by decide +kernel) (fun hx => ?_) (fun b2 z3 hx ho4 => ?_)
  · subst hx; replace h := zOm_none h
    refine zV_blk (pc' := 7) (lo' := [(3, .null), (0, .ref a0), (1, .int x1), (2, .int x2)]) (st' := [.null]) [.astore_n 3, .aload_n 3] (by decide +kernel) rfl ?_
    refine zV_ifnull (r := none) (tgt := 22) (off := 15) (by decide +kernel) (by decide) (fun _ => ?_) (fun _ q => by cases q)
    refine zV_blk (pc' := 23) (lo' := [(3, .null), (0, .ref a0), (1, .int x1), (2, .int x2)]) (st' := [.int (-1)]) [.iconst (-1)] (by decide +kernel) rfl ?_
    obtain rfl := Option.some.inj h
    exact zV_iret rfl (by decide +kernel) (hQ _ rfl _ _ hXX)
  · subst hx; replace h := zOm_some h
    refine zV_blk (pc' := 7) (lo' := [(3, .ref b2), (0, .ref a0), (1, .int x1), (2, .int x2)]) (st' := [.ref b2]) [.astore_n 3, .aload_n 3] (by decide +kernel) rfl ?_
    refine zV_ifnull (r := some b2) (tgt := 22) (off := 15) (by decide +kernel) (by decide) (fun q => by cases q) (fun _ _ => ?_)
    refine zV_blk (pc' := 12) (lo' := [(3, .ref b2), (0, .ref a0), (1, .int x1), (2, .int x2)]) (st' := [.int 1, .int x2]) [.iload_n 2, .iconst 1] (by decide +kernel) rfl ?_
    refine zV_icmp_lt (tgt := 22) (off := 10) (by decide +kernel) (by decide) (fun q => ?_) (fun q => ?_)
    · replace h := zif_pos q h
      clear q
      refine zV_blk (pc' := 23) (lo' := [(3, .ref b2), (0, .ref a0), (1, .int x1), (2, .int x2)]) (st' := [.int (-1)]) [.iconst (-1)] (by decide +kernel) rfl ?_
      obtain rfl := Option.some.inj h
      exact zV_iret rfl (by decide +kernel) (hQ _ rfl _ _ hXX)
    · replace h := zif_neg q h
      clear q
      refine zV_blk (pc' := 19) (lo' := [(3, .ref b2), (0, .ref a0), (1, .int x1), (2, .int x2)]) (st' := [.int 9999, .int x2]) [.iload_n 2, .sipush 9999] (by decide +kernel) rfl ?_
      refine zV_icmp_le (tgt := 24) (off := 5) (by decide +kernel) (by decide) (fun q => ?_) (fun q => ?_)
      · replace h := zif_pos q h
        clear q
        refine zV_blk (pc' := 26) (lo' := [(3, .ref b2), (0, .ref a0), (1, .int x1), (2, .int x2)]) (st' := [.int x2, .ref b2]) [.aload_n 3, .iload_n 2] (by decide +kernel) rfl ?_
        obtain ⟨v5, hv5, h⟩ := zbind h
        obtain ⟨b6, b7, b8, hc9, hc10, hc11, hc12⟩ := ho4
        refine zV_roV (idx := 265) (rest := []) (fs := [.ref b6, .ref b7, .ref b8]) (ci := 0) (fun Q2 hQ2 => ck_passingYear s0 D cB cI cJ cD n z3 x2 b2 v5 hv5 ⟨b6, b7, b8, hc9, hc10, hc11, hc12⟩ hQ2) oX0_passingYear (Or.inl hc9) rfl (zT_mem 1157 (by decide +kernel) rfl) (zT_mem 1158 (by decide +kernel) rfl) (zT_mem 1159 (by decide +kernel) rfl) rfl rfl (Nat.le_of_ble_eq_true rfl) ⟨by decide, by decide⟩ (by decide +kernel) ?_
        refine zV_eq (st2 := [.int v5]) rfl rfl rfl rfl ?_
        obtain rfl := Option.some.inj h
        exact zV_iret rfl (by decide +kernel) (hQ _ rfl _ _ hXX)
      · replace h := zif_neg q h
        clear q
        refine zV_blk (pc' := 23) (lo' := [(3, .ref b2), (0, .ref a0), (1, .int x1), (2, .int x2)]) (st' := [.int (-1)]) [.iconst (-1)] (by decide +kernel) rfl ?_
        obtain rfl := Option.some.inj h
        exact zV_iret rfl (by decide +kernel) (hQ _ rfl _ _ hXX)

def l_dawns (n : Nat) (x0 : (Nat → Option vDes)) (x1 : Int32) (x2 : Int32) (x3 : Int32) (x4 : Int32) : Option (Int32) := (k_designAt x0 x1).bind (fun v1 => zOm v1 (some (-1)) (fun z3 => (k_isWalk x2 x3).bind (fun v5 => (if v5 = true then (if (x4 : Int32) < (0 : Int32) then some (-1) else (if (x4 : Int32) ≤ (2 : Int32) then (k_tellDawns n z3 x2 x3 x4).bind (fun v6 => some v6) else some (-1))) else some (-1)))))
theorem oX11_dawns : zO yX11_dawns cX11_dawns 6 (some .int) 4 := ⟨zT_mem 1188 (by decide +kernel) rfl, zT_mem 89 (by decide +kernel) rfl, by decide +kernel, by decide +kernel, by decide +kernel⟩
set_option maxHeartbeats 4000000 in
set_option maxRecDepth 100000 in
theorem cl_dawns (s0 : State) (D : va_G) (cB cI cJ cD : ClassId) (n : Nat) (x0 : (Nat → Option vDes)) (x1 : Int32) (x2 : Int32) (x3 : Int32) (x4 : Int32) (a0 : Nat) (x : Int32) (h : l_dawns n x0 x1 x2 x3 x4 = some x) {hi hm : zHp} {nx : Nat} {Q : Option Value → zHp → zHp → Nat → Prop} (ho0 : iLD cI cD hi hm a0 x0) (hQ0 : ∀ (hi' : zHp) (nx' : Nat), zX hi hi' → Q (some (.int x)) hi' hm nx') : zM s0 D (zty cB cI cJ cD) yX11_dawns cX11_dawns 6 (some .int) 5 125 0 0 [.ref a0, .int x1, .int x2, .int x3, .int x4] hi hm nx Q := by
  have hQ : ∀ r : Int32, x = r → ∀ (hi' : zHp) (nx' : Nat), zX hi hi' → Q (some (.int r)) hi' hm nx' := fun r hr => by subst hr; exact hQ0
  clear hQ0
  have hXX : zX hi hi := zX.rf
  refine zM_of (by decide +kernel) (Nat.le_of_ble_eq_true rfl) ?_
  unfold l_dawns at h
  refine zV_eq (lo2 := [(0, .ref a0), (1, .int x1), (2, .int x2), (3, .int x3), (4, .int x4)]) rfl rfl rfl rfl ?_
  refine zV_blk (pc' := 2) (lo' := [(0, .ref a0), (1, .int x1), (2, .int x2), (3, .int x3), (4, .int x4)]) (st' := [.int x1, .ref a0]) [.aload_n 0, .iload_n 1] (by decide +kernel) rfl ?_
  obtain ⟨v1, hv1, h⟩ := zbind h
  refine zV_designAt (idx := 105) (rest := []) v1 hv1 ho0 (zT_mem 603 (by decide +kernel) rfl) rfl (Nat.le_of_ble_eq_true rfl) ⟨by decide, by decide⟩ (by decide +kernel) (fun hx => ?_) (fun b2 z3 hx ho4 => ?_)
  · subst hx; replace h := zOm_none h
    refine zV_blk (pc' := 9) (lo' := [(5, .null), (0, .ref a0), (1, .int x1), (2, .int x2), (3, .int x3), (4, .int x4)]) (st' := [.null]) [.astore 5, .aload 5] (by decide +kernel) rfl ?_
    refine zV_ifnull (r := none) (tgt := 31) (off := 22) (by decide +kernel) (by decide) (fun _ => ?_) (fun _ q => by cases q)
    refine zV_blk (pc' := 32) (lo' := [(5, .null), (0, .ref a0), (1, .int x1), (2, .int x2), (3, .int x3), (4, .int x4)]) (st' := [.int (-1)]) [.iconst (-1)] (by decide +kernel) rfl ?_
    obtain rfl := Option.some.inj h
    exact zV_iret rfl (by decide +kernel) (hQ _ rfl _ _ hXX)
  · subst hx; replace h := zOm_some h
    refine zV_blk (pc' := 9) (lo' := [(5, .ref b2), (0, .ref a0), (1, .int x1), (2, .int x2), (3, .int x3), (4, .int x4)]) (st' := [.ref b2]) [.astore 5, .aload 5] (by decide +kernel) rfl ?_
    refine zV_ifnull (r := some b2) (tgt := 31) (off := 22) (by decide +kernel) (by decide) (fun q => by cases q) (fun _ _ => ?_)
    refine zV_blk (pc' := 14) (lo' := [(5, .ref b2), (0, .ref a0), (1, .int x1), (2, .int x2), (3, .int x3), (4, .int x4)]) (st' := [.int x3, .int x2]) [.iload_n 2, .iload_n 3] (by decide +kernel) rfl ?_
    obtain ⟨v5, hv5, h⟩ := zbind h
    refine zV_roS (idx := 257) (rest := []) (fun Q2 hQ2 => ck_isWalk s0 D cB cI cJ cD x2 x3  v5 hv5  hQ2) oX11_isWalk (zT_mem 1142 (by decide +kernel) rfl) (zT_mem 1143 (by decide +kernel) rfl) rfl rfl (Nat.le_of_ble_eq_true rfl) ⟨by decide, by decide⟩ (by decide +kernel) ?_
    refine zV_eq (st2 := [.int (zb v5)]) rfl rfl rfl rfl ?_
    refine zV_bif_eq (tgt := 31) (off := 14) (by decide +kernel) (by decide) (fun q => ?_) (fun q => ?_)
    · replace h := zif_neg q h
      clear q
      refine zV_blk (pc' := 32) (lo' := [(5, .ref b2), (0, .ref a0), (1, .int x1), (2, .int x2), (3, .int x3), (4, .int x4)]) (st' := [.int (-1)]) [.iconst (-1)] (by decide +kernel) rfl ?_
      obtain rfl := Option.some.inj h
      exact zV_iret rfl (by decide +kernel) (hQ _ rfl _ _ hXX)
    · replace h := zif_pos q h
      clear q
      refine zV_blk (pc' := 22) (lo' := [(5, .ref b2), (0, .ref a0), (1, .int x1), (2, .int x2), (3, .int x3), (4, .int x4)]) (st' := [.int x4]) [.iload 4] (by decide +kernel) rfl ?_
      refine zV_if_lt (tgt := 31) (off := 9) (by decide +kernel) (by decide) (fun q => ?_) (fun q => ?_)
      · replace h := zif_pos q h
        clear q
        refine zV_blk (pc' := 32) (lo' := [(5, .ref b2), (0, .ref a0), (1, .int x1), (2, .int x2), (3, .int x3), (4, .int x4)]) (st' := [.int (-1)]) [.iconst (-1)] (by decide +kernel) rfl ?_
        obtain rfl := Option.some.inj h
        exact zV_iret rfl (by decide +kernel) (hQ _ rfl _ _ hXX)
      · replace h := zif_neg q h
        clear q
        refine zV_blk (pc' := 28) (lo' := [(5, .ref b2), (0, .ref a0), (1, .int x1), (2, .int x2), (3, .int x3), (4, .int x4)]) (st' := [.int 2, .int x4]) [.iload 4, .iconst 2] (by decide +kernel) rfl ?_
        refine zV_icmp_le (tgt := 33) (off := 5) (by decide +kernel) (by decide) (fun q => ?_) (fun q => ?_)
        · replace h := zif_pos q h
          clear q
          refine zV_blk (pc' := 39) (lo' := [(5, .ref b2), (0, .ref a0), (1, .int x1), (2, .int x2), (3, .int x3), (4, .int x4)]) (st' := [.int x4, .int x3, .int x2, .ref b2]) [.aload 5, .iload_n 2, .iload_n 3, .iload 4] (by decide +kernel) rfl ?_
          obtain ⟨v6, hv6, h⟩ := zbind h
          obtain ⟨b7, b8, b9, hc10, hc11, hc12, hc13⟩ := ho4
          refine zV_roV (idx := 300) (rest := []) (fs := [.ref b7, .ref b8, .ref b9]) (ci := 0) (fun Q2 hQ2 => ck_tellDawns s0 D cB cI cJ cD n z3 x2 x3 x4 b2 v6 hv6 ⟨b7, b8, b9, hc10, hc11, hc12, hc13⟩ hQ2) oX0_tellDawns (Or.inl hc10) rfl (zT_mem 1189 (by decide +kernel) rfl) (zT_mem 1190 (by decide +kernel) rfl) (zT_mem 1191 (by decide +kernel) rfl) rfl rfl (Nat.le_of_ble_eq_true rfl) ⟨by decide, by decide⟩ (by decide +kernel) ?_
          refine zV_eq (st2 := [.int v6]) rfl rfl rfl rfl ?_
          obtain rfl := Option.some.inj h
          exact zV_iret rfl (by decide +kernel) (hQ _ rfl _ _ hXX)
        · replace h := zif_neg q h
          clear q
          refine zV_blk (pc' := 32) (lo' := [(5, .ref b2), (0, .ref a0), (1, .int x1), (2, .int x2), (3, .int x3), (4, .int x4)]) (st' := [.int (-1)]) [.iconst (-1)] (by decide +kernel) rfl ?_
          obtain rfl := Option.some.inj h
          exact zV_iret rfl (by decide +kernel) (hQ _ rfl _ _ hXX)

def l_steady (n : Nat) (x0 : (Nat → Option vDes)) (x1 : Int32) (x2 : Int32) (x3 : Int32) (x4 : Int32) (x5 : Int32) : Option (Int64) := (k_designAt x0 x1).bind (fun v1 => zOm v1 (some (-1000000000000000)) (fun z3 => (k_isWalk x2 x3).bind (fun v5 => (if v5 = true then (if (x4 : Int32) < (0 : Int32) then some (-1000000000000000) else (if (9999 : Int32) < (x4 : Int32) then some (-1000000000000000) else (if (x5 : Int32) < (0 : Int32) then some (-1000000000000000) else (if (x5 : Int32) ≤ (1 : Int32) then (k_tellSteady n z3 x2 x3 x4 x5).bind (fun v6 => some v6) else some (-1000000000000000))))) else some (-1000000000000000)))))
theorem oX11_steady : zO yX11_steady cX11_steady 7 (some .long) 5 := ⟨zT_mem 1206 (by decide +kernel) rfl, zT_mem 89 (by decide +kernel) rfl, by decide +kernel, by decide +kernel, by decide +kernel⟩
set_option maxHeartbeats 4000000 in
set_option maxRecDepth 100000 in
theorem cl_steady (s0 : State) (D : va_G) (cB cI cJ cD : ClassId) (n : Nat) (x0 : (Nat → Option vDes)) (x1 : Int32) (x2 : Int32) (x3 : Int32) (x4 : Int32) (x5 : Int32) (a0 : Nat) (x : Int64) (h : l_steady n x0 x1 x2 x3 x4 x5 = some x) {hi hm : zHp} {nx : Nat} {Q : Option Value → zHp → zHp → Nat → Prop} (ho0 : iLD cI cD hi hm a0 x0) (hQ0 : ∀ (hi' : zHp) (nx' : Nat), zX hi hi' → Q (some (.long x)) hi' hm nx') : zM s0 D (zty cB cI cJ cD) yX11_steady cX11_steady 7 (some .long) 6 145 0 0 [.ref a0, .int x1, .int x2, .int x3, .int x4, .int x5] hi hm nx Q := by
  have hQ : ∀ r : Int64, x = r → ∀ (hi' : zHp) (nx' : Nat), zX hi hi' → Q (some (.long r)) hi' hm nx' := fun r hr => by subst hr; exact hQ0
  clear hQ0
  have hXX : zX hi hi := zX.rf
  refine zM_of (by decide +kernel) (Nat.le_of_ble_eq_true rfl) ?_
  unfold l_steady at h
  refine zV_eq (lo2 := [(0, .ref a0), (1, .int x1), (2, .int x2), (3, .int x3), (4, .int x4), (5, .int x5)]) rfl rfl rfl rfl ?_
  refine zV_blk (pc' := 2) (lo' := [(0, .ref a0), (1, .int x1), (2, .int x2), (3, .int x3), (4, .int x4), (5, .int x5)]) (st' := [.int x1, .ref a0]) [.aload_n 0, .iload_n 1] (by decide +kernel) rfl ?_
  obtain ⟨v1, hv1, h⟩ := zbind h
  refine zV_designAt (idx := 105) (rest := []) v1 hv1 ho0 (zT_mem 603 (by decide +kernel) rfl) rfl (Nat.le_of_ble_eq_true rfl) ⟨by decide, by decide⟩ (by decide +kernel) (fun hx => ?_) (fun b2 z3 hx ho4 => ?_)
  · subst hx; replace h := zOm_none h
    refine zV_blk (pc' := 9) (lo' := [(6, .null), (0, .ref a0), (1, .int x1), (2, .int x2), (3, .int x3), (4, .int x4), (5, .int x5)]) (st' := [.null]) [.astore 6, .aload 6] (by decide +kernel) rfl ?_
    refine zV_ifnull (r := none) (tgt := 44) (off := 35) (by decide +kernel) (by decide) (fun _ => ?_) (fun _ q => by cases q)
    refine zV_ldc2 (idx := 164) (v := (-1000000000000000)) (zT_mem 681 (by decide +kernel) rfl) (by decide +kernel) ?_
    obtain rfl := Option.some.inj h
    exact zV_lret rfl (by decide +kernel) (hQ _ rfl _ _ hXX)
  · subst hx; replace h := zOm_some h
    refine zV_blk (pc' := 9) (lo' := [(6, .ref b2), (0, .ref a0), (1, .int x1), (2, .int x2), (3, .int x3), (4, .int x4), (5, .int x5)]) (st' := [.ref b2]) [.astore 6, .aload 6] (by decide +kernel) rfl ?_
    refine zV_ifnull (r := some b2) (tgt := 44) (off := 35) (by decide +kernel) (by decide) (fun q => by cases q) (fun _ _ => ?_)
    refine zV_blk (pc' := 14) (lo' := [(6, .ref b2), (0, .ref a0), (1, .int x1), (2, .int x2), (3, .int x3), (4, .int x4), (5, .int x5)]) (st' := [.int x3, .int x2]) [.iload_n 2, .iload_n 3] (by decide +kernel) rfl ?_
    obtain ⟨v5, hv5, h⟩ := zbind h
    refine zV_roS (idx := 257) (rest := []) (fun Q2 hQ2 => ck_isWalk s0 D cB cI cJ cD x2 x3  v5 hv5  hQ2) oX11_isWalk (zT_mem 1142 (by decide +kernel) rfl) (zT_mem 1143 (by decide +kernel) rfl) rfl rfl (Nat.le_of_ble_eq_true rfl) ⟨by decide, by decide⟩ (by decide +kernel) ?_
    refine zV_eq (st2 := [.int (zb v5)]) rfl rfl rfl rfl ?_
    refine zV_bif_eq (tgt := 44) (off := 27) (by decide +kernel) (by decide) (fun q => ?_) (fun q => ?_)
    · replace h := zif_neg q h
      clear q
      refine zV_ldc2 (idx := 164) (v := (-1000000000000000)) (zT_mem 681 (by decide +kernel) rfl) (by decide +kernel) ?_
      obtain rfl := Option.some.inj h
      exact zV_lret rfl (by decide +kernel) (hQ _ rfl _ _ hXX)
    · replace h := zif_pos q h
      clear q
      refine zV_blk (pc' := 22) (lo' := [(6, .ref b2), (0, .ref a0), (1, .int x1), (2, .int x2), (3, .int x3), (4, .int x4), (5, .int x5)]) (st' := [.int x4]) [.iload 4] (by decide +kernel) rfl ?_
      refine zV_if_lt (tgt := 44) (off := 22) (by decide +kernel) (by decide) (fun q => ?_) (fun q => ?_)
      · replace h := zif_pos q h
        clear q
        refine zV_ldc2 (idx := 164) (v := (-1000000000000000)) (zT_mem 681 (by decide +kernel) rfl) (by decide +kernel) ?_
        obtain rfl := Option.some.inj h
        exact zV_lret rfl (by decide +kernel) (hQ _ rfl _ _ hXX)
      · replace h := zif_neg q h
        clear q
        refine zV_blk (pc' := 30) (lo' := [(6, .ref b2), (0, .ref a0), (1, .int x1), (2, .int x2), (3, .int x3), (4, .int x4), (5, .int x5)]) (st' := [.int 9999, .int x4]) [.iload 4, .sipush 9999] (by decide +kernel) rfl ?_
        refine zV_icmp_gt (tgt := 44) (off := 14) (by decide +kernel) (by decide) (fun q => ?_) (fun q => ?_)
        · replace h := zif_pos q h
          clear q
          refine zV_ldc2 (idx := 164) (v := (-1000000000000000)) (zT_mem 681 (by decide +kernel) rfl) (by decide +kernel) ?_
          obtain rfl := Option.some.inj h
          exact zV_lret rfl (by decide +kernel) (hQ _ rfl _ _ hXX)
        · replace h := zif_neg q h
          clear q
          refine zV_blk (pc' := 35) (lo' := [(6, .ref b2), (0, .ref a0), (1, .int x1), (2, .int x2), (3, .int x3), (4, .int x4), (5, .int x5)]) (st' := [.int x5]) [.iload 5] (by decide +kernel) rfl ?_
          refine zV_if_lt (tgt := 44) (off := 9) (by decide +kernel) (by decide) (fun q => ?_) (fun q => ?_)
          · replace h := zif_pos q h
            clear q
            refine zV_ldc2 (idx := 164) (v := (-1000000000000000)) (zT_mem 681 (by decide +kernel) rfl) (by decide +kernel) ?_
            obtain rfl := Option.some.inj h
            exact zV_lret rfl (by decide +kernel) (hQ _ rfl _ _ hXX)
          · replace h := zif_neg q h
            clear q
            refine zV_blk (pc' := 41) (lo' := [(6, .ref b2), (0, .ref a0), (1, .int x1), (2, .int x2), (3, .int x3), (4, .int x4), (5, .int x5)]) (st' := [.int 1, .int x5]) [.iload 5, .iconst 1] (by decide +kernel) rfl ?_
            refine zV_icmp_le (tgt := 48) (off := 7) (by decide +kernel) (by decide) (fun q => ?_) (fun q => ?_)
            · replace h := zif_pos q h
              clear q
              refine zV_blk (pc' := 56) (lo' := [(6, .ref b2), (0, .ref a0), (1, .int x1), (2, .int x2), (3, .int x3), (4, .int x4), (5, .int x5)]) (st' := [.int x5, .int x4, .int x3, .int x2, .ref b2]) [.aload 6, .iload_n 2, .iload_n 3, .iload 4, .iload 5] (by decide +kernel) rfl ?_
              obtain ⟨v6, hv6, h⟩ := zbind h
              obtain ⟨b7, b8, b9, hc10, hc11, hc12, hc13⟩ := ho4
              refine zV_roV (idx := 304) (rest := []) (fs := [.ref b7, .ref b8, .ref b9]) (ci := 0) (fun Q2 hQ2 => ck_tellSteady s0 D cB cI cJ cD n z3 x2 x3 x4 x5 b2 v6 hv6 ⟨b7, b8, b9, hc10, hc11, hc12, hc13⟩ hQ2) oX0_tellSteady (Or.inl hc10) rfl (zT_mem 1207 (by decide +kernel) rfl) (zT_mem 1208 (by decide +kernel) rfl) (zT_mem 1209 (by decide +kernel) rfl) rfl rfl (Nat.le_of_ble_eq_true rfl) ⟨by decide, by decide⟩ (by decide +kernel) ?_
              refine zV_eq (st2 := [.long v6]) rfl rfl rfl rfl ?_
              obtain rfl := Option.some.inj h
              exact zV_lret rfl (by decide +kernel) (hQ _ rfl _ _ hXX)
            · replace h := zif_neg q h
              clear q
              refine zV_ldc2 (idx := 164) (v := (-1000000000000000)) (zT_mem 681 (by decide +kernel) rfl) (by decide +kernel) ?_
              obtain rfl := Option.some.inj h
              exact zV_lret rfl (by decide +kernel) (hQ _ rfl _ _ hXX)

def l_gap (n : Nat) (x0 : (Nat → Option vDes)) (x1 : Int32) (x2 : Int32) : Option (Int32) := (k_designAt x0 x1).bind (fun v1 => zOm v1 (some (-1)) (fun z3 => (if (x2 : Int32) < (0 : Int32) then some (-1) else (if (x2 : Int32) ≤ (2 : Int32) then (k_tellGap n z3.2.1 x2).bind (fun v12 => some v12) else some (-1)))))
theorem oX11_gap : zO yX11_gap cX11_gap 4 (some .int) 2 := ⟨zT_mem 1214 (by decide +kernel) rfl, zT_mem 89 (by decide +kernel) rfl, by decide +kernel, by decide +kernel, by decide +kernel⟩
set_option maxHeartbeats 4000000 in
set_option maxRecDepth 100000 in
theorem cl_gap (s0 : State) (D : va_G) (cB cI cJ cD : ClassId) (n : Nat) (x0 : (Nat → Option vDes)) (x1 : Int32) (x2 : Int32) (a0 : Nat) (x : Int32) (h : l_gap n x0 x1 x2 = some x) {hi hm : zHp} {nx : Nat} {Q : Option Value → zHp → zHp → Nat → Prop} (ho0 : iLD cI cD hi hm a0 x0) (hQ0 : ∀ (hi' : zHp) (nx' : Nat), zX hi hi' → Q (some (.int x)) hi' hm nx') : zM s0 D (zty cB cI cJ cD) yX11_gap cX11_gap 4 (some .int) 4 95 0 0 [.ref a0, .int x1, .int x2] hi hm nx Q := by
  have hQ : ∀ r : Int32, x = r → ∀ (hi' : zHp) (nx' : Nat), zX hi hi' → Q (some (.int r)) hi' hm nx' := fun r hr => by subst hr; exact hQ0
  clear hQ0
  have hXX : zX hi hi := zX.rf
  refine zM_of (by decide +kernel) (Nat.le_of_ble_eq_true rfl) ?_
  unfold l_gap at h
  refine zV_eq (lo2 := [(0, .ref a0), (1, .int x1), (2, .int x2)]) rfl rfl rfl rfl ?_
  refine zV_blk (pc' := 2) (lo' := [(0, .ref a0), (1, .int x1), (2, .int x2)]) (st' := [.int x1, .ref a0]) [.aload_n 0, .iload_n 1] (by decide +kernel) rfl ?_
  obtain ⟨v1, hv1, h⟩ := zbind h
  refine zV_designAt (idx := 105) (rest := []) v1 hv1 ho0 (zT_mem 603 (by decide +kernel) rfl) rfl (Nat.le_of_ble_eq_true rfl) ⟨by decide, by decide⟩ (by decide +kernel) (fun hx => ?_) (fun b2 z3 hx ho4 => ?_)
  · subst hx; replace h := zOm_none h
    refine zV_blk (pc' := 7) (lo' := [(3, .null), (0, .ref a0), (1, .int x1), (2, .int x2)]) (st' := [.null]) [.astore_n 3, .aload_n 3] (by decide +kernel) rfl ?_
    refine zV_ifnull (r := none) (tgt := 19) (off := 12) (by decide +kernel) (by decide) (fun _ => ?_) (fun _ q => by cases q)
    refine zV_blk (pc' := 20) (lo' := [(3, .null), (0, .ref a0), (1, .int x1), (2, .int x2)]) (st' := [.int (-1)]) [.iconst (-1)] (by decide +kernel) rfl ?_
    obtain rfl := Option.some.inj h
    exact zV_iret rfl (by decide +kernel) (hQ _ rfl _ _ hXX)
  · subst hx; replace h := zOm_some h
    refine zV_blk (pc' := 7) (lo' := [(3, .ref b2), (0, .ref a0), (1, .int x1), (2, .int x2)]) (st' := [.ref b2]) [.astore_n 3, .aload_n 3] (by decide +kernel) rfl ?_
    refine zV_ifnull (r := some b2) (tgt := 19) (off := 12) (by decide +kernel) (by decide) (fun q => by cases q) (fun _ _ => ?_)
    refine zV_blk (pc' := 11) (lo' := [(3, .ref b2), (0, .ref a0), (1, .int x1), (2, .int x2)]) (st' := [.int x2]) [.iload_n 2] (by decide +kernel) rfl ?_
    refine zV_if_lt (tgt := 19) (off := 8) (by decide +kernel) (by decide) (fun q => ?_) (fun q => ?_)
    · replace h := zif_pos q h
      clear q
      refine zV_blk (pc' := 20) (lo' := [(3, .ref b2), (0, .ref a0), (1, .int x1), (2, .int x2)]) (st' := [.int (-1)]) [.iconst (-1)] (by decide +kernel) rfl ?_
      obtain rfl := Option.some.inj h
      exact zV_iret rfl (by decide +kernel) (hQ _ rfl _ _ hXX)
    · replace h := zif_neg q h
      clear q
      refine zV_blk (pc' := 16) (lo' := [(3, .ref b2), (0, .ref a0), (1, .int x1), (2, .int x2)]) (st' := [.int 2, .int x2]) [.iload_n 2, .iconst 2] (by decide +kernel) rfl ?_
      refine zV_icmp_le (tgt := 21) (off := 5) (by decide +kernel) (by decide) (fun q => ?_) (fun q => ?_)
      · replace h := zif_pos q h
        clear q
        refine zV_blk (pc' := 22) (lo' := [(3, .ref b2), (0, .ref a0), (1, .int x1), (2, .int x2)]) (st' := [.ref b2]) [.aload_n 3] (by decide +kernel) rfl ?_
        obtain ⟨b5, b6, b7, hc8, hc9, hc10, hc11⟩ := ho4
        refine zV_get (ci := 0) (idx := 95) (k := 1) (N := 3) (fs := [.ref b5, .ref b6, .ref b7]) (v := .ref b6) (Or.inl hc8) rfl z_in0 (by decide) (zT_mem 566 (by decide +kernel) rfl) rfl (by decide +kernel) ?_
        refine zV_blk (pc' := 26) (lo' := [(3, .ref b2), (0, .ref a0), (1, .int x1), (2, .int x2)]) (st' := [.int x2, .ref b6]) [.iload_n 2] (by decide +kernel) rfl ?_
        obtain ⟨v12, hv12, h⟩ := zbind h
        refine zV_roS (idx := 308) (rest := []) (fun Q2 hQ2 => ck_tellGap s0 D cB cI cJ cD n z3.2.1 x2 b6 v12 hv12 hc10 hQ2) oX11_tellGap (zT_mem 1215 (by decide +kernel) rfl) (zT_mem 1216 (by decide +kernel) rfl) rfl rfl (Nat.le_of_ble_eq_true rfl) ⟨by decide, by decide⟩ (by decide +kernel) ?_
        refine zV_eq (st2 := [.int v12]) rfl rfl rfl rfl ?_
        obtain rfl := Option.some.inj h
        exact zV_iret rfl (by decide +kernel) (hQ _ rfl _ _ hXX)
      · replace h := zif_neg q h
        clear q
        refine zV_blk (pc' := 20) (lo' := [(3, .ref b2), (0, .ref a0), (1, .int x1), (2, .int x2)]) (st' := [.int (-1)]) [.iconst (-1)] (by decide +kernel) rfl ?_
        obtain rfl := Option.some.inj h
        exact zV_iret rfl (by decide +kernel) (hQ _ rfl _ _ hXX)

def l_even (n : Nat) (x0 : (Nat → Option vDes)) (x1 : Int32) : Option (Int32) := (k_designAt x0 x1).bind (fun v1 => zOm v1 (some (-1)) (fun z3 => (k_tellGap n z3.2.1 1).bind (fun v12 => (k_tellGap n z3.2.1 0).bind (fun v13 => (if (1 : Int32) < ((v12 - v13) : Int32) then some 0 else some 1)))))
theorem oX11_even : zO yX11_even cX11_even 3 (some .int) 1 := ⟨zT_mem 1224 (by decide +kernel) rfl, zT_mem 89 (by decide +kernel) rfl, by decide +kernel, by decide +kernel, by decide +kernel⟩
set_option maxHeartbeats 4000000 in
set_option maxRecDepth 100000 in
theorem cl_even (s0 : State) (D : va_G) (cB cI cJ cD : ClassId) (n : Nat) (x0 : (Nat → Option vDes)) (x1 : Int32) (a0 : Nat) (x : Int32) (h : l_even n x0 x1 = some x) {hi hm : zHp} {nx : Nat} {Q : Option Value → zHp → zHp → Nat → Prop} (ho0 : iLD cI cD hi hm a0 x0) (hQ0 : ∀ (hi' : zHp) (nx' : Nat), zX hi hi' → Q (some (.int x)) hi' hm nx') : zM s0 D (zty cB cI cJ cD) yX11_even cX11_even 3 (some .int) 4 95 0 0 [.ref a0, .int x1] hi hm nx Q := by
  have hQ : ∀ r : Int32, x = r → ∀ (hi' : zHp) (nx' : Nat), zX hi hi' → Q (some (.int r)) hi' hm nx' := fun r hr => by subst hr; exact hQ0
  clear hQ0
  have hXX : zX hi hi := zX.rf
  refine zM_of (by decide +kernel) (Nat.le_of_ble_eq_true rfl) ?_
  unfold l_even at h
  refine zV_eq (lo2 := [(0, .ref a0), (1, .int x1)]) rfl rfl rfl rfl ?_
  refine zV_blk (pc' := 2) (lo' := [(0, .ref a0), (1, .int x1)]) (st' := [.int x1, .ref a0]) [.aload_n 0, .iload_n 1] (by decide +kernel) rfl ?_
  obtain ⟨v1, hv1, h⟩ := zbind h
  refine zV_designAt (idx := 105) (rest := []) v1 hv1 ho0 (zT_mem 603 (by decide +kernel) rfl) rfl (Nat.le_of_ble_eq_true rfl) ⟨by decide, by decide⟩ (by decide +kernel) (fun hx => ?_) (fun b2 z3 hx ho4 => ?_)
  · subst hx; replace h := zOm_none h
    refine zV_blk (pc' := 7) (lo' := [(2, .null), (0, .ref a0), (1, .int x1)]) (st' := [.null]) [.astore_n 2, .aload_n 2] (by decide +kernel) rfl ?_
    refine zV_ifnonnull (r := none) (tgt := 12) (off := 5) (by decide +kernel) (by decide) (fun _ q => by cases q) (fun _ => ?_)
    refine zV_blk (pc' := 11) (lo' := [(2, .null), (0, .ref a0), (1, .int x1)]) (st' := [.int (-1)]) [.iconst (-1)] (by decide +kernel) rfl ?_
    obtain rfl := Option.some.inj h
    exact zV_iret rfl (by decide +kernel) (hQ _ rfl _ _ hXX)
  · subst hx; replace h := zOm_some h
    refine zV_blk (pc' := 7) (lo' := [(2, .ref b2), (0, .ref a0), (1, .int x1)]) (st' := [.ref b2]) [.astore_n 2, .aload_n 2] (by decide +kernel) rfl ?_
    refine zV_ifnonnull (r := some b2) (tgt := 12) (off := 5) (by decide +kernel) (by decide) (fun _ _ => ?_) (fun q => by cases q)
    refine zV_blk (pc' := 13) (lo' := [(2, .ref b2), (0, .ref a0), (1, .int x1)]) (st' := [.ref b2]) [.aload_n 2] (by decide +kernel) rfl ?_
    obtain ⟨b5, b6, b7, hc8, hc9, hc10, hc11⟩ := ho4
    refine zV_get (ci := 0) (idx := 95) (k := 1) (N := 3) (fs := [.ref b5, .ref b6, .ref b7]) (v := .ref b6) (Or.inl hc8) rfl z_in0 (by decide) (zT_mem 566 (by decide +kernel) rfl) rfl (by decide +kernel) ?_
    refine zV_blk (pc' := 17) (lo' := [(2, .ref b2), (0, .ref a0), (1, .int x1)]) (st' := [.int 1, .ref b6]) [.iconst 1] (by decide +kernel) rfl ?_
    obtain ⟨v12, hv12, h⟩ := zbind h
    refine zV_roS (idx := 308) (rest := []) (fun Q2 hQ2 => ck_tellGap s0 D cB cI cJ cD n z3.2.1 1 b6 v12 hv12 hc10 hQ2) oX11_tellGap (zT_mem 1215 (by decide +kernel) rfl) (zT_mem 1216 (by decide +kernel) rfl) rfl rfl (Nat.le_of_ble_eq_true rfl) ⟨by decide, by decide⟩ (by decide +kernel) ?_
    refine zV_eq (st2 := [.int v12]) rfl rfl rfl rfl ?_
    refine zV_blk (pc' := 21) (lo' := [(2, .ref b2), (0, .ref a0), (1, .int x1)]) (st' := [.ref b2, .int v12]) [.aload_n 2] (by decide +kernel) rfl ?_
    refine zV_get (ci := 0) (idx := 95) (k := 1) (N := 3) (fs := [.ref b5, .ref b6, .ref b7]) (v := .ref b6) (Or.inl hc8) rfl z_in0 (by decide) (zT_mem 566 (by decide +kernel) rfl) rfl (by decide +kernel) ?_
    refine zV_blk (pc' := 25) (lo' := [(2, .ref b2), (0, .ref a0), (1, .int x1)]) (st' := [.int 0, .ref b6, .int v12]) [.iconst 0] (by decide +kernel) rfl ?_
    obtain ⟨v13, hv13, h⟩ := zbind h
    refine zV_roS (idx := 308) (rest := [.int v12]) (fun Q2 hQ2 => ck_tellGap s0 D cB cI cJ cD n z3.2.1 0 b6 v13 hv13 hc10 hQ2) oX11_tellGap (zT_mem 1215 (by decide +kernel) rfl) (zT_mem 1216 (by decide +kernel) rfl) rfl rfl (Nat.le_of_ble_eq_true rfl) ⟨by decide, by decide⟩ (by decide +kernel) ?_
    refine zV_eq (st2 := [.int v13, .int v12]) rfl rfl rfl rfl ?_
    refine zV_blk (pc' := 30) (lo' := [(2, .ref b2), (0, .ref a0), (1, .int x1)]) (st' := [.int 1, .int (v12 - v13)]) [.isub, .iconst 1] (by decide +kernel) rfl ?_
    refine zV_icmp_gt (tgt := 37) (off := 7) (by decide +kernel) (by decide) (fun q => ?_) (fun q => ?_)
    · replace h := zif_pos q h
      clear q
      refine zV_blk (pc' := 38) (lo' := [(2, .ref b2), (0, .ref a0), (1, .int x1)]) (st' := [.int 0]) [.iconst 0] (by decide +kernel) rfl ?_
      obtain rfl := Option.some.inj h
      exact zV_iret rfl (by decide +kernel) (hQ _ rfl _ _ hXX)
    · replace h := zif_neg q h
      clear q
      refine zV_blk (pc' := 34) (lo' := [(2, .ref b2), (0, .ref a0), (1, .int x1)]) (st' := [.int 1]) [.iconst 1] (by decide +kernel) rfl ?_
      refine zV_goto (tgt := 38) (off := 4) (by decide +kernel) (by decide) ?_
      obtain rfl := Option.some.inj h
      exact zV_iret rfl (by decide +kernel) (hQ _ rfl _ _ hXX)

