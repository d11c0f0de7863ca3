theorem zOm_n {α β : Type} {v : Option α} {a : Option β} {f : α → Option β} {r : β} (hv : v = none) (h : zOm v a f = some r) : a = some r := by subst hv; exact h
theorem zOm_s {α β : Type} {v : Option α} {a : Option β} {f : α → Option β} {r : β} {z : α} (hv : v = some z) (h : zOm v a f = some r) : f z = some r := by subst hv; exact h

theorem z_in4 : ∀ w ∈ u_ws RX4 TX4 4, w ∈ zT := zT_all _ [1309, 1311, 1313, 1315] (by decide +kernel) (by decide +kernel)

def k_newJoint (x1 : vDes) (x2 : vDes) (x3 : Int64) (x5 : Int64) : Option (vJoint) := some (x1, x2, x3, x5)
theorem oX4_init : zO yX4_init cX4_init 7 none 4 := ⟨zT_mem 1303 (by decide +kernel) rfl, zT_mem 112 (by decide +kernel) rfl, by decide +kernel, by decide +kernel, by decide +kernel⟩
set_option maxHeartbeats 4000000 in
set_option maxRecDepth 100000 in
theorem ck_newJoint (s0 : State) (D : va_G) (cB cI cJ cD : ClassId) (x1 : vDes) (x2 : vDes) (x3 : Int64) (x5 : Int64) (a0 : Nat) (a1 : Nat) (a2 : Nat) (x : vJoint) (h : k_newJoint x1 x2 x3 x5 = some x) {hi hm : zHp} {nx : Nat} {Q : Option Value → zHp → zHp → Nat → Prop} (ho1 : iDes cI hi a1 x1) (ho2 : iDes cI hi a2 x2) (hS : hm a0 = some (.inr (4, [.null, .null, .long 0, .long 0]))) (hQ0 : ∀ hm', hm' a0 = some (.inr (4, [.ref a1, .ref a2, .long x.2.2.1, .long x.2.2.2])) → zO1 a0 hm hm' → Q none hi hm' nx) : zM s0 D (zty cB cI cJ cD) yX4_init cX4_init 7 none 1 20 0 0 [.ref a0, .ref a1, .ref a2, .long x3, .long x5] hi hm nx Q := by
  have hO : zO1 a0 hm hm := zO1.rf
  refine zM_of (by decide +kernel) (Nat.le_of_ble_eq_true rfl) ?_
  unfold k_newJoint at h
  refine zV_eq (lo2 := [(0, .ref a0), (1, .ref a1), (2, .ref a2), (3, .long x3), (5, .long x5)]) rfl rfl rfl rfl ?_
  refine zV_blk (pc' := 1) (lo' := [(0, .ref a0), (1, .ref a1), (2, .ref a2), (3, .long x3), (5, .long x5)]) (st' := [.ref a0]) [.aload_n 0] (by decide +kernel) rfl ?_
  refine zV_objInit (idx := 3) (zT_mem 1304 (by decide +kernel) rfl) (zT_mem 119 (by decide +kernel) rfl) (zT_mem 120 (by decide +kernel) rfl) (by decide) (Nat.le_of_ble_eq_true rfl) (by decide +kernel) ?_
  refine zV_blk (pc' := 6) (lo' := [(0, .ref a0), (1, .ref a1), (2, .ref a2), (3, .long x3), (5, .long x5)]) (st' := [.ref a1, .ref a0]) [.aload_n 0, .aload_n 1] (by decide +kernel) rfl ?_
  refine zV_putS (ci := 4) (idx := 9) (k := 0) (v := .ref a1) (fs' := [.ref a1, .null, .long 0, .long 0]) tyX4 hS rfl z_in4 tyX4_ok nmX4 (by decide) (zT_mem 1305 (by decide +kernel) rfl) (fun _ => ⟨rfl, rfl⟩) rfl rfl (Nat.le_of_ble_eq_true rfl) rfl (by decide +kernel) (fun hm2 hS2 hO2 => ?_)
  replace hO := hO.tr hO2; clear hO2; clear hS; have hS := hS2; clear hS2
  refine zV_blk (pc' := 11) (lo' := [(0, .ref a0), (1, .ref a1), (2, .ref a2), (3, .long x3), (5, .long x5)]) (st' := [.ref a2, .ref a0]) [.aload_n 0, .aload_n 2] (by decide +kernel) rfl ?_
  refine zV_putS (ci := 4) (idx := 15) (k := 1) (v := .ref a2) (fs' := [.ref a1, .ref a2, .long 0, .long 0]) tyX4 hS rfl z_in4 tyX4_ok nmX4 (by decide) (zT_mem 1306 (by decide +kernel) rfl) (fun _ => ⟨rfl, rfl⟩) rfl rfl (Nat.le_of_ble_eq_true rfl) rfl (by decide +kernel) (fun hm2 hS2 hO2 => ?_)
  replace hO := hO.tr hO2; clear hO2; clear hS; have hS := hS2; clear hS2
  refine zV_blk (pc' := 16) (lo' := [(0, .ref a0), (1, .ref a1), (2, .ref a2), (3, .long x3), (5, .long x5)]) (st' := [.long x3, .ref a0]) [.aload_n 0, .lload_n 3] (by decide +kernel) rfl ?_
  refine zV_putS (ci := 4) (idx := 18) (k := 2) (v := .long x3) (fs' := [.ref a1, .ref a2, .long x3, .long 0]) tyX4 hS rfl z_in4 tyX4_ok nmX4 (by decide) (zT_mem 1307 (by decide +kernel) rfl) (fun _ => ⟨rfl, rfl⟩) rfl rfl (Nat.le_of_ble_eq_true rfl) rfl (by decide +kernel) (fun hm2 hS2 hO2 => ?_)
  replace hO := hO.tr hO2; clear hO2; clear hS; have hS := hS2; clear hS2
  refine zV_blk (pc' := 22) (lo' := [(0, .ref a0), (1, .ref a1), (2, .ref a2), (3, .long x3), (5, .long x5)]) (st' := [.long x5, .ref a0]) [.aload_n 0, .lload 5] (by decide +kernel) rfl ?_
  refine zV_putS (ci := 4) (idx := 22) (k := 3) (v := .long x5) (fs' := [.ref a1, .ref a2, .long x3, .long x5]) tyX4 hS rfl z_in4 tyX4_ok nmX4 (by decide) (zT_mem 1308 (by decide +kernel) rfl) (fun _ => ⟨rfl, rfl⟩) rfl rfl (Nat.le_of_ble_eq_true rfl) rfl (by decide +kernel) (fun hm2 hS2 hO2 => ?_)
  replace hO := hO.tr hO2; clear hO2; clear hS; have hS := hS2; clear hS2
  obtain rfl := Option.some.inj h
  exact zV_vret rfl (by decide +kernel) (hQ0 _ hS hO)

def k_jtellDate (n : Nat) (x0 : vJoint) (x1 : Int64) (x3 : Int32) : Option (Int64) := (k_holds n x0.1 x1).bind (fun v6 => (if v6 = true then (if (x0.2.2.1 : Int64) ≤ (x1 : Int64) then (k_tellDate n x0.2.1 (x1 + x0.2.2.2) x3).bind (fun v14 => (if (v14 : Int64) = ((-1000000000000000) : Int64) then some v14 else (if (x3 : Int32) = (4 : Int32) then (k_tellDate n x0.1 x1 x3).bind (fun v22 => some v22) else some v14))) else (k_tellDate n x0.1 x1 x3).bind (fun v23 => some v23)) else some (-1000000000000000)))
theorem oX4_tellDate : zO yX4_tellDate cX4_tellDate 6 (some .long) 2 := ⟨zT_mem 1325 (by decide +kernel) rfl, zT_mem 112 (by decide +kernel) rfl, by decide +kernel, by decide +kernel, by decide +kernel⟩
set_option maxHeartbeats 4000000 in
set_option maxRecDepth 100000 in
theorem ck_jtellDate (s0 : State) (D : va_G) (cB cI cJ cD : ClassId) (n : Nat) (x0 : vJoint) (x1 : Int64) (x3 : Int32) (a0 : Nat) (x : Int64) (h : k_jtellDate n x0 x1 x3 = some x) {hi hm : zHp} {nx : Nat} {Q : Option Value → zHp → zHp → Nat → Prop} (ho0 : iJoint cI hi a0 x0) (hQ0 : Q (some (.long x)) hi hm nx) : zM s0 D (zty cB cI cJ cD) yX4_tellDate cX4_tellDate 6 (some .long) 5 118 0 0 [.ref a0, .long x1, .int x3] hi hm nx Q := by
  have hQ : ∀ r : Int64, x = r → Q (some (.long r)) hi hm nx := fun r hr => by subst hr; exact hQ0
  clear hQ0
  refine zM_of (by decide +kernel) (Nat.le_of_ble_eq_true rfl) ?_
  unfold k_jtellDate at h
  refine zV_eq (lo2 := [(0, .ref a0), (1, .long x1), (3, .int x3)]) rfl rfl rfl rfl ?_
  refine zV_blk (pc' := 1) (lo' := [(0, .ref a0), (1, .long x1), (3, .int x3)]) (st' := [.ref a0]) [.aload_n 0] (by decide +kernel) rfl ?_
  obtain ⟨b1, b2, hc3, hc4, hc5⟩ := ho0
  refine zV_get (ci := 4) (idx := 9) (k := 0) (N := 4) (fs := [.ref b1, .ref b2, .long x0.2.2.1, .long x0.2.2.2]) (v := .ref b1) (Or.inl hc3) rfl z_in4 (by decide) (zT_mem 1305 (by decide +kernel) rfl) rfl (by decide +kernel) ?_
  refine zV_blk (pc' := 5) (lo' := [(0, .ref a0), (1, .long x1), (3, .int x3)]) (st' := [.long x1, .ref b1]) [.lload_n 1] (by decide +kernel) rfl ?_
  obtain ⟨v6, hv6, h⟩ := zbind h
  obtain ⟨b7, b8, b9, hc10, hc11, hc12, hc13⟩ := hc4
  refine zV_roV (idx := 25) (rest := []) (fs := [.ref b7, .ref b8, .ref b9]) (ci := 0) (fun Q2 hQ2 => ck_holds s0 D cB cI cJ cD n x0.1 x1 b1 v6 hv6 ⟨b7, b8, b9, hc10, hc11, hc12, hc13⟩ hQ2) oX0_holds (Or.inl hc10) rfl (zT_mem 1326 (by decide +kernel) rfl) (zT_mem 1059 (by decide +kernel) rfl) (zT_mem 1060 (by decide +kernel) rfl) rfl rfl (Nat.le_of_ble_eq_true rfl) ⟨by decide, by decide⟩ (by decide +kernel) ?_
  refine zV_eq (st2 := [.int (zb v6)]) rfl rfl rfl rfl ?_
  refine zV_bif_ne (tgt := 15) (off := 7) (by decide +kernel) (by decide) (fun q => ?_) (fun q => ?_)
  · replace h := zif_pos q h
    clear q
    refine zV_blk (pc' := 17) (lo' := [(0, .ref a0), (1, .long x1), (3, .int x3)]) (st' := [.ref a0, .long x1]) [.lload_n 1, .aload_n 0] (by decide +kernel) rfl ?_
    refine zV_get (ci := 4) (idx := 18) (k := 2) (N := 4) (fs := [.ref b1, .ref b2, .long x0.2.2.1, .long x0.2.2.2]) (v := .long x0.2.2.1) (Or.inl hc3) rfl z_in4 (by decide) (zT_mem 1307 (by decide +kernel) rfl) rfl (by decide +kernel) ?_
    refine zV_blk (pc' := 21) (lo' := [(0, .ref a0), (1, .long x1), (3, .int x3)]) (st' := [.int (lg_cmp x1 x0.2.2.1)]) [.lcmp] (by decide +kernel) rfl ?_
    refine zV_lcmp_ge (tgt := 34) (off := 13) (by decide +kernel) (by decide) (fun q => ?_) (fun q => ?_)
    · replace h := zif_pos q h
      clear q
      refine zV_blk (pc' := 35) (lo' := [(0, .ref a0), (1, .long x1), (3, .int x3)]) (st' := [.ref a0]) [.aload_n 0] (by decide +kernel) rfl ?_
      refine zV_get (ci := 4) (idx := 15) (k := 1) (N := 4) (fs := [.ref b1, .ref b2, .long x0.2.2.1, .long x0.2.2.2]) (v := .ref b2) (Or.inl hc3) rfl z_in4 (by decide) (zT_mem 1306 (by decide +kernel) rfl) rfl (by decide +kernel) ?_
      refine zV_blk (pc' := 40) (lo' := [(0, .ref a0), (1, .long x1), (3, .int x3)]) (st' := [.ref a0, .long x1, .ref b2]) [.lload_n 1, .aload_n 0] (by decide +kernel) rfl ?_
      refine zV_get (ci := 4) (idx := 22) (k := 3) (N := 4) (fs := [.ref b1, .ref b2, .long x0.2.2.1, .long x0.2.2.2]) (v := .long x0.2.2.2) (Or.inl hc3) rfl z_in4 (by decide) (zT_mem 1308 (by decide +kernel) rfl) rfl (by decide +kernel) ?_
      refine zV_blk (pc' := 45) (lo' := [(0, .ref a0), (1, .long x1), (3, .int x3)]) (st' := [.int x3, .long (x1 + x0.2.2.2), .ref b2]) [.ladd, .iload_n 3] (by decide +kernel) rfl ?_
      obtain ⟨v14, hv14, h⟩ := zbind h
      obtain ⟨b15, b16, b17, hc18, hc19, hc20, hc21⟩ := hc5
      refine zV_roV (idx := 33) (rest := []) (fs := [.ref b15, .ref b16, .ref b17]) (ci := 0) (fun Q2 hQ2 => ck_tellDate s0 D cB cI cJ cD n x0.2.1 (x1 + x0.2.2.2) x3 b2 v14 hv14 ⟨b15, b16, b17, hc18, hc19, hc20, hc21⟩ hQ2) oX0_tellDate (Or.inl hc18) rfl (zT_mem 1328 (by decide +kernel) rfl) (zT_mem 1055 (by decide +kernel) rfl) (zT_mem 1056 (by decide +kernel) rfl) rfl rfl (Nat.le_of_ble_eq_true rfl) ⟨by decide, by decide⟩ (by decide +kernel) ?_
      refine zV_eq (st2 := [.long v14]) rfl rfl rfl rfl ?_
      refine zV_blk (pc' := 52) (lo' := [(4, .long v14), (0, .ref a0), (1, .long x1), (3, .int x3)]) (st' := [.long v14]) [.lstore 4, .lload 4] (by decide +kernel) rfl ?_
      refine zV_ldc2 (idx := 31) (v := (-1000000000000000)) (zT_mem 1327 (by decide +kernel) rfl) (by decide +kernel) ?_
      refine zV_blk (pc' := 56) (lo' := [(4, .long v14), (0, .ref a0), (1, .long x1), (3, .int x3)]) (st' := [.int (lg_cmp v14 (-1000000000000000))]) [.lcmp] (by decide +kernel) rfl ?_
      refine zV_lcmp_eq (tgt := 76) (off := 20) (by decide +kernel) (by decide) (fun q => ?_) (fun q => ?_)
      · replace h := zif_pos q h
        clear q
        refine zV_blk (pc' := 78) (lo' := [(4, .long v14), (0, .ref a0), (1, .long x1), (3, .int x3)]) (st' := [.long v14]) [.lload 4] (by decide +kernel) rfl ?_
        obtain rfl := Option.some.inj h
        exact zV_lret rfl (by decide +kernel) (hQ _ rfl)
      · replace h := zif_neg q h
        clear q
        refine zV_blk (pc' := 61) (lo' := [(4, .long v14), (0, .ref a0), (1, .long x1), (3, .int x3)]) (st' := [.int 4, .int x3]) [.iload_n 3, .iconst 4] (by decide +kernel) rfl ?_
        refine zV_icmp_ne (tgt := 76) (off := 15) (by decide +kernel) (by decide) (fun q => ?_) (fun q => ?_)
        · replace h := zif_neg q h
          clear q
          refine zV_blk (pc' := 78) (lo' := [(4, .long v14), (0, .ref a0), (1, .long x1), (3, .int x3)]) (st' := [.long v14]) [.lload 4] (by decide +kernel) rfl ?_
          obtain rfl := Option.some.inj h
          exact zV_lret rfl (by decide +kernel) (hQ _ rfl)
        · replace h := zif_pos q h
          clear q
          refine zV_blk (pc' := 65) (lo' := [(4, .long v14), (0, .ref a0), (1, .long x1), (3, .int x3)]) (st' := [.ref a0]) [.aload_n 0] (by decide +kernel) rfl ?_
          refine zV_get (ci := 4) (idx := 9) (k := 0) (N := 4) (fs := [.ref b1, .ref b2, .long x0.2.2.1, .long x0.2.2.2]) (v := .ref b1) (Or.inl hc3) rfl z_in4 (by decide) (zT_mem 1305 (by decide +kernel) rfl) rfl (by decide +kernel) ?_
          refine zV_blk (pc' := 70) (lo' := [(4, .long v14), (0, .ref a0), (1, .long x1), (3, .int x3)]) (st' := [.int x3, .long x1, .ref b1]) [.lload_n 1, .iload_n 3] (by decide +kernel) rfl ?_
          obtain ⟨v22, hv22, h⟩ := zbind h
          refine zV_roV (idx := 33) (rest := []) (fs := [.ref b7, .ref b8, .ref b9]) (ci := 0) (fun Q2 hQ2 => ck_tellDate s0 D cB cI cJ cD n x0.1 x1 x3 b1 v22 hv22 ⟨b7, b8, b9, hc10, hc11, hc12, hc13⟩ hQ2) oX0_tellDate (Or.inl hc10) rfl (zT_mem 1328 (by decide +kernel) rfl) (zT_mem 1055 (by decide +kernel) rfl) (zT_mem 1056 (by decide +kernel) rfl) rfl rfl (Nat.le_of_ble_eq_true rfl) ⟨by decide, by decide⟩ (by decide +kernel) ?_
          refine zV_eq (st2 := [.long v22]) rfl rfl rfl rfl ?_
          refine zV_goto (tgt := 78) (off := 5) (by decide +kernel) (by decide) ?_
          obtain rfl := Option.some.inj h
          exact zV_lret rfl (by decide +kernel) (hQ _ rfl)
    · replace h := zif_neg q h
      clear q
      refine zV_blk (pc' := 25) (lo' := [(0, .ref a0), (1, .long x1), (3, .int x3)]) (st' := [.ref a0]) [.aload_n 0] (by decide +kernel) rfl ?_
      refine zV_get (ci := 4) (idx := 9) (k := 0) (N := 4) (fs := [.ref b1, .ref b2, .long x0.2.2.1, .long x0.2.2.2]) (v := .ref b1) (Or.inl hc3) rfl z_in4 (by decide) (zT_mem 1305 (by decide +kernel) rfl) rfl (by decide +kernel) ?_
      refine zV_blk (pc' := 30) (lo' := [(0, .ref a0), (1, .long x1), (3, .int x3)]) (st' := [.int x3, .long x1, .ref b1]) [.lload_n 1, .iload_n 3] (by decide +kernel) rfl ?_
      obtain ⟨v23, hv23, h⟩ := zbind h
      refine zV_roV (idx := 33) (rest := []) (fs := [.ref b7, .ref b8, .ref b9]) (ci := 0) (fun Q2 hQ2 => ck_tellDate s0 D cB cI cJ cD n x0.1 x1 x3 b1 v23 hv23 ⟨b7, b8, b9, hc10, hc11, hc12, hc13⟩ hQ2) oX0_tellDate (Or.inl hc10) rfl (zT_mem 1328 (by decide +kernel) rfl) (zT_mem 1055 (by decide +kernel) rfl) (zT_mem 1056 (by decide +kernel) rfl) rfl rfl (Nat.le_of_ble_eq_true rfl) ⟨by decide, by decide⟩ (by decide +kernel) ?_
      refine zV_eq (st2 := [.long v23]) rfl rfl rfl rfl ?_
      obtain rfl := Option.some.inj h
      exact zV_lret rfl (by decide +kernel) (hQ _ rfl)
  · replace h := zif_neg q h
    clear q
    refine zV_ldc2 (idx := 31) (v := (-1000000000000000)) (zT_mem 1327 (by decide +kernel) rfl) (by decide +kernel) ?_
    obtain rfl := Option.some.inj h
    exact zV_lret rfl (by decide +kernel) (hQ _ rfl)

def k_jearlyDay (n : Nat) (x0 : vJoint) (x1 : Int32) (x2 : Int32) (x3 : Int32) : Option (Int64) := (k_numberOf n x0.1 x1 x2 x3).bind (fun v6 => (if (v6 : Int64) = ((-1000000000000000) : Int64) then some (-1000000000000000) else (if (x0.2.2.1 : Int64) ≤ (v6 : Int64) then some (-1000000000000000) else some v6)))
theorem oX4_earlyDay : zO yX4_earlyDay cX4_earlyDay 6 (some .long) 3 := ⟨zT_mem 1336 (by decide +kernel) rfl, zT_mem 112 (by decide +kernel) rfl, by decide +kernel, by decide +kernel, by decide +kernel⟩
set_option maxHeartbeats 4000000 in
set_option maxRecDepth 100000 in
theorem ck_jearlyDay (s0 : State) (D : va_G) (cB cI cJ cD : ClassId) (n : Nat) (x0 : vJoint) (x1 : Int32) (x2 : Int32) (x3 : Int32) (a0 : Nat) (x : Int64) (h : k_jearlyDay n x0 x1 x2 x3 = some x) {hi hm : zHp} {nx : Nat} {Q : Option Value → zHp → zHp → Nat → Prop} (ho0 : iJoint cI hi a0 x0) (hQ0 : Q (some (.long x)) hi hm nx) : zM s0 D (zty cB cI cJ cD) yX4_earlyDay cX4_earlyDay 6 (some .long) 4 91 0 0 [.ref a0, .int x1, .int x2, .int x3] hi hm nx Q := by
  have hQ : ∀ r : Int64, x = r → Q (some (.long r)) hi hm nx := fun r hr => by subst hr; exact hQ0
  clear hQ0
  refine zM_of (by decide +kernel) (Nat.le_of_ble_eq_true rfl) ?_
  unfold k_jearlyDay at h
  refine zV_eq (lo2 := [(0, .ref a0), (1, .int x1), (2, .int x2), (3, .int x3)]) rfl rfl rfl rfl ?_
  refine zV_blk (pc' := 1) (lo' := [(0, .ref a0), (1, .int x1), (2, .int x2), (3, .int x3)]) (st' := [.ref a0]) [.aload_n 0] (by decide +kernel) rfl ?_
  obtain ⟨b1, b2, hc3, hc4, hc5⟩ := ho0
  refine zV_get (ci := 4) (idx := 9) (k := 0) (N := 4) (fs := [.ref b1, .ref b2, .long x0.2.2.1, .long x0.2.2.2]) (v := .ref b1) (Or.inl hc3) rfl z_in4 (by decide) (zT_mem 1305 (by decide +kernel) rfl) rfl (by decide +kernel) ?_
  refine zV_blk (pc' := 7) (lo' := [(0, .ref a0), (1, .int x1), (2, .int x2), (3, .int x3)]) (st' := [.int x3, .int x2, .int x1, .ref b1]) [.iload_n 1, .iload_n 2, .iload_n 3] (by decide +kernel) rfl ?_
  obtain ⟨v6, hv6, h⟩ := zbind h
  obtain ⟨b7, b8, b9, hc10, hc11, hc12, hc13⟩ := hc4
  refine zV_roV (idx := 37) (rest := []) (fs := [.ref b7, .ref b8, .ref b9]) (ci := 0) (fun Q2 hQ2 => ck_numberOf s0 D cB cI cJ cD n x0.1 x1 x2 x3 b1 v6 hv6 ⟨b7, b8, b9, hc10, hc11, hc12, hc13⟩ hQ2) oX0_numberOf (Or.inl hc10) rfl (zT_mem 1337 (by decide +kernel) rfl) (zT_mem 1092 (by decide +kernel) rfl) (zT_mem 1093 (by decide +kernel) rfl) rfl rfl (Nat.le_of_ble_eq_true rfl) ⟨by decide, by decide⟩ (by decide +kernel) ?_
  refine zV_eq (st2 := [.long v6]) rfl rfl rfl rfl ?_
  refine zV_blk (pc' := 14) (lo' := [(4, .long v6), (0, .ref a0), (1, .int x1), (2, .int x2), (3, .int x3)]) (st' := [.long v6]) [.lstore 4, .lload 4] (by decide +kernel) rfl ?_
  refine zV_ldc2 (idx := 31) (v := (-1000000000000000)) (zT_mem 1327 (by decide +kernel) rfl) (by decide +kernel) ?_
  refine zV_blk (pc' := 18) (lo' := [(4, .long v6), (0, .ref a0), (1, .int x1), (2, .int x2), (3, .int x3)]) (st' := [.int (lg_cmp v6 (-1000000000000000))]) [.lcmp] (by decide +kernel) rfl ?_
  refine zV_lcmp_eq (tgt := 36) (off := 18) (by decide +kernel) (by decide) (fun q => ?_) (fun q => ?_)
  · replace h := zif_pos q h
    clear q
    refine zV_ldc2 (idx := 31) (v := (-1000000000000000)) (zT_mem 1327 (by decide +kernel) rfl) (by decide +kernel) ?_
    obtain rfl := Option.some.inj h
    exact zV_lret rfl (by decide +kernel) (hQ _ rfl)
  · replace h := zif_neg q h
    clear q
    refine zV_blk (pc' := 24) (lo' := [(4, .long v6), (0, .ref a0), (1, .int x1), (2, .int x2), (3, .int x3)]) (st' := [.ref a0, .long v6]) [.lload 4, .aload_n 0] (by decide +kernel) rfl ?_
    refine zV_get (ci := 4) (idx := 18) (k := 2) (N := 4) (fs := [.ref b1, .ref b2, .long x0.2.2.1, .long x0.2.2.2]) (v := .long x0.2.2.1) (Or.inl hc3) rfl z_in4 (by decide) (zT_mem 1307 (by decide +kernel) rfl) rfl (by decide +kernel) ?_
    refine zV_blk (pc' := 28) (lo' := [(4, .long v6), (0, .ref a0), (1, .int x1), (2, .int x2), (3, .int x3)]) (st' := [.int (lg_cmp v6 x0.2.2.1)]) [.lcmp] (by decide +kernel) rfl ?_
    refine zV_lcmp_ge (tgt := 36) (off := 8) (by decide +kernel) (by decide) (fun q => ?_) (fun q => ?_)
    · replace h := zif_pos q h
      clear q
      refine zV_ldc2 (idx := 31) (v := (-1000000000000000)) (zT_mem 1327 (by decide +kernel) rfl) (by decide +kernel) ?_
      obtain rfl := Option.some.inj h
      exact zV_lret rfl (by decide +kernel) (hQ _ rfl)
    · replace h := zif_neg q h
      clear q
      refine zV_blk (pc' := 33) (lo' := [(4, .long v6), (0, .ref a0), (1, .int x1), (2, .int x2), (3, .int x3)]) (st' := [.long v6]) [.lload 4] (by decide +kernel) rfl ?_
      refine zV_goto (tgt := 39) (off := 6) (by decide +kernel) (by decide) ?_
      obtain rfl := Option.some.inj h
      exact zV_lret rfl (by decide +kernel) (hQ _ rfl)

def k_jlateDay (n : Nat) (x0 : vJoint) (x1 : Int32) (x2 : Int32) (x3 : Int32) : Option (Int64) := (k_numberOf n x0.2.1 x1 x2 x3).bind (fun v6 => (if (v6 : Int64) = ((-1000000000000000) : Int64) then some (-1000000000000000) else (if ((v6 - x0.2.2.2) : Int64) < (x0.2.2.1 : Int64) then some (-1000000000000000) else (k_holds n x0.1 (v6 - x0.2.2.2)).bind (fun v14 => (if v14 = true then some (v6 - x0.2.2.2) else some (-1000000000000000))))))
theorem oX4_lateDay : zO yX4_lateDay cX4_lateDay 8 (some .long) 3 := ⟨zT_mem 1341 (by decide +kernel) rfl, zT_mem 112 (by decide +kernel) rfl, by decide +kernel, by decide +kernel, by decide +kernel⟩
set_option maxHeartbeats 4000000 in
set_option maxRecDepth 100000 in
theorem ck_jlateDay (s0 : State) (D : va_G) (cB cI cJ cD : ClassId) (n : Nat) (x0 : vJoint) (x1 : Int32) (x2 : Int32) (x3 : Int32) (a0 : Nat) (x : Int64) (h : k_jlateDay n x0 x1 x2 x3 = some x) {hi hm : zHp} {nx : Nat} {Q : Option Value → zHp → zHp → Nat → Prop} (ho0 : iJoint cI hi a0 x0) (hQ0 : Q (some (.long x)) hi hm nx) : zM s0 D (zty cB cI cJ cD) yX4_lateDay cX4_lateDay 8 (some .long) 4 91 0 0 [.ref a0, .int x1, .int x2, .int x3] hi hm nx Q := by
  have hQ : ∀ r : Int64, x = r → Q (some (.long r)) hi hm nx := fun r hr => by subst hr; exact hQ0
  clear hQ0
  refine zM_of (by decide +kernel) (Nat.le_of_ble_eq_true rfl) ?_
  unfold k_jlateDay at h
  refine zV_eq (lo2 := [(0, .ref a0), (1, .int x1), (2, .int x2), (3, .int x3)]) rfl rfl rfl rfl ?_
  refine zV_blk (pc' := 1) (lo' := [(0, .ref a0), (1, .int x1), (2, .int x2), (3, .int x3)]) (st' := [.ref a0]) [.aload_n 0] (by decide +kernel) rfl ?_
  obtain ⟨b1, b2, hc3, hc4, hc5⟩ := ho0
  refine zV_get (ci := 4) (idx := 15) (k := 1) (N := 4) (fs := [.ref b1, .ref b2, .long x0.2.2.1, .long x0.2.2.2]) (v := .ref b2) (Or.inl hc3) rfl z_in4 (by decide) (zT_mem 1306 (by decide +kernel) rfl) rfl (by decide +kernel) ?_
  refine zV_blk (pc' := 7) (lo' := [(0, .ref a0), (1, .int x1), (2, .int x2), (3, .int x3)]) (st' := [.int x3, .int x2, .int x1, .ref b2]) [.iload_n 1, .iload_n 2, .iload_n 3] (by decide +kernel) rfl ?_
  obtain ⟨v6, hv6, h⟩ := zbind h
  obtain ⟨b7, b8, b9, hc10, hc11, hc12, hc13⟩ := hc5
  refine zV_roV (idx := 37) (rest := []) (fs := [.ref b7, .ref b8, .ref b9]) (ci := 0) (fun Q2 hQ2 => ck_numberOf s0 D cB cI cJ cD n x0.2.1 x1 x2 x3 b2 v6 hv6 ⟨b7, b8, b9, hc10, hc11, hc12, hc13⟩ hQ2) oX0_numberOf (Or.inl hc10) rfl (zT_mem 1337 (by decide +kernel) rfl) (zT_mem 1092 (by decide +kernel) rfl) (zT_mem 1093 (by decide +kernel) rfl) rfl rfl (Nat.le_of_ble_eq_true rfl) ⟨by decide, by decide⟩ (by decide +kernel) ?_
  refine zV_eq (st2 := [.long v6]) rfl rfl rfl rfl ?_
  refine zV_blk (pc' := 14) (lo' := [(4, .long v6), (0, .ref a0), (1, .int x1), (2, .int x2), (3, .int x3)]) (st' := [.long v6]) [.lstore 4, .lload 4] (by decide +kernel) rfl ?_
  refine zV_ldc2 (idx := 31) (v := (-1000000000000000)) (zT_mem 1327 (by decide +kernel) rfl) (by decide +kernel) ?_
  refine zV_blk (pc' := 18) (lo' := [(4, .long v6), (0, .ref a0), (1, .int x1), (2, .int x2), (3, .int x3)]) (st' := [.int (lg_cmp v6 (-1000000000000000))]) [.lcmp] (by decide +kernel) rfl ?_
  refine zV_lcmp_ne (tgt := 25) (off := 7) (by decide +kernel) (by decide) (fun q => ?_) (fun q => ?_)
  · replace h := zif_neg q h
    clear q
    refine zV_blk (pc' := 28) (lo' := [(4, .long v6), (0, .ref a0), (1, .int x1), (2, .int x2), (3, .int x3)]) (st' := [.ref a0, .long v6]) [.lload 4, .aload_n 0] (by decide +kernel) rfl ?_
    refine zV_get (ci := 4) (idx := 22) (k := 3) (N := 4) (fs := [.ref b1, .ref b2, .long x0.2.2.1, .long x0.2.2.2]) (v := .long x0.2.2.2) (Or.inl hc3) rfl z_in4 (by decide) (zT_mem 1308 (by decide +kernel) rfl) rfl (by decide +kernel) ?_
    refine zV_blk (pc' := 37) (lo' := [(6, .long (v6 - x0.2.2.2)), (4, .long v6), (0, .ref a0), (1, .int x1), (2, .int x2), (3, .int x3)]) (st' := [.ref a0, .long (v6 - x0.2.2.2)]) [.lsub, .lstore 6, .lload 6, .aload_n 0] (by decide +kernel) rfl ?_
    refine zV_get (ci := 4) (idx := 18) (k := 2) (N := 4) (fs := [.ref b1, .ref b2, .long x0.2.2.1, .long x0.2.2.2]) (v := .long x0.2.2.1) (Or.inl hc3) rfl z_in4 (by decide) (zT_mem 1307 (by decide +kernel) rfl) rfl (by decide +kernel) ?_
    refine zV_blk (pc' := 41) (lo' := [(6, .long (v6 - x0.2.2.2)), (4, .long v6), (0, .ref a0), (1, .int x1), (2, .int x2), (3, .int x3)]) (st' := [.int (lg_cmp (v6 - x0.2.2.2) x0.2.2.1)]) [.lcmp] (by decide +kernel) rfl ?_
    refine zV_lcmp_lt (tgt := 61) (off := 20) (by decide +kernel) (by decide) (fun q => ?_) (fun q => ?_)
    · replace h := zif_pos q h
      clear q
      refine zV_ldc2 (idx := 31) (v := (-1000000000000000)) (zT_mem 1327 (by decide +kernel) rfl) (by decide +kernel) ?_
      obtain rfl := Option.some.inj h
      exact zV_lret rfl (by decide +kernel) (hQ _ rfl)
    · replace h := zif_neg q h
      clear q
      refine zV_blk (pc' := 45) (lo' := [(6, .long (v6 - x0.2.2.2)), (4, .long v6), (0, .ref a0), (1, .int x1), (2, .int x2), (3, .int x3)]) (st' := [.ref a0]) [.aload_n 0] (by decide +kernel) rfl ?_
      refine zV_get (ci := 4) (idx := 9) (k := 0) (N := 4) (fs := [.ref b1, .ref b2, .long x0.2.2.1, .long x0.2.2.2]) (v := .ref b1) (Or.inl hc3) rfl z_in4 (by decide) (zT_mem 1305 (by decide +kernel) rfl) rfl (by decide +kernel) ?_
      refine zV_blk (pc' := 50) (lo' := [(6, .long (v6 - x0.2.2.2)), (4, .long v6), (0, .ref a0), (1, .int x1), (2, .int x2), (3, .int x3)]) (st' := [.long (v6 - x0.2.2.2), .ref b1]) [.lload 6] (by decide +kernel) rfl ?_
      obtain ⟨v14, hv14, h⟩ := zbind h
      obtain ⟨b15, b16, b17, hc18, hc19, hc20, hc21⟩ := hc4
      refine zV_roV (idx := 25) (rest := []) (fs := [.ref b15, .ref b16, .ref b17]) (ci := 0) (fun Q2 hQ2 => ck_holds s0 D cB cI cJ cD n x0.1 (v6 - x0.2.2.2) b1 v14 hv14 ⟨b15, b16, b17, hc18, hc19, hc20, hc21⟩ hQ2) oX0_holds (Or.inl hc18) rfl (zT_mem 1326 (by decide +kernel) rfl) (zT_mem 1059 (by decide +kernel) rfl) (zT_mem 1060 (by decide +kernel) rfl) rfl rfl (Nat.le_of_ble_eq_true rfl) ⟨by decide, by decide⟩ (by decide +kernel) ?_
      refine zV_eq (st2 := [.int (zb v14)]) rfl rfl rfl rfl ?_
      refine zV_bif_eq (tgt := 61) (off := 8) (by decide +kernel) (by decide) (fun q => ?_) (fun q => ?_)
      · replace h := zif_neg q h
        clear q
        refine zV_ldc2 (idx := 31) (v := (-1000000000000000)) (zT_mem 1327 (by decide +kernel) rfl) (by decide +kernel) ?_
        obtain rfl := Option.some.inj h
        exact zV_lret rfl (by decide +kernel) (hQ _ rfl)
      · replace h := zif_pos q h
        clear q
        refine zV_blk (pc' := 58) (lo' := [(6, .long (v6 - x0.2.2.2)), (4, .long v6), (0, .ref a0), (1, .int x1), (2, .int x2), (3, .int x3)]) (st' := [.long (v6 - x0.2.2.2)]) [.lload 6] (by decide +kernel) rfl ?_
        refine zV_goto (tgt := 64) (off := 6) (by decide +kernel) (by decide) ?_
        obtain rfl := Option.some.inj h
        exact zV_lret rfl (by decide +kernel) (hQ _ rfl)
  · replace h := zif_pos q h
    clear q
    refine zV_ldc2 (idx := 31) (v := (-1000000000000000)) (zT_mem 1327 (by decide +kernel) rfl) (by decide +kernel) ?_
    obtain rfl := Option.some.inj h
    exact zV_lret rfl (by decide +kernel) (hQ _ rfl)

def k_jfirstDay (n : Nat) (x0 : vJoint) (x1 : Int32) (x2 : Int32) (x3 : Int32) : Option (Int64) := (k_jearlyDay n x0 x1 x2 x3).bind (fun v1 => (if (v1 : Int64) = ((-1000000000000000) : Int64) then (k_jlateDay n x0 x1 x2 x3).bind (fun v7 => some v7) else some v1))
theorem oX4_firstDay : zO yX4_firstDay cX4_firstDay 6 (some .long) 3 := ⟨zT_mem 1349 (by decide +kernel) rfl, zT_mem 112 (by decide +kernel) rfl, by decide +kernel, by decide +kernel, by decide +kernel⟩
set_option maxHeartbeats 4000000 in
set_option maxRecDepth 100000 in
theorem ck_jfirstDay (s0 : State) (D : va_G) (cB cI cJ cD : ClassId) (n : Nat) (x0 : vJoint) (x1 : Int32) (x2 : Int32) (x3 : Int32) (a0 : Nat) (x : Int64) (h : k_jfirstDay n x0 x1 x2 x3 = some x) {hi hm : zHp} {nx : Nat} {Q : Option Value → zHp → zHp → Nat → Prop} (ho0 : iJoint cI hi a0 x0) (hQ0 : Q (some (.long x)) hi hm nx) : zM s0 D (zty cB cI cJ cD) yX4_firstDay cX4_firstDay 6 (some .long) 5 118 0 0 [.ref a0, .int x1, .int x2, .int x3] hi hm nx Q := by
  have hQ : ∀ r : Int64, x = r → Q (some (.long r)) hi hm nx := fun r hr => by subst hr; exact hQ0
  clear hQ0
  refine zM_of (by decide +kernel) (Nat.le_of_ble_eq_true rfl) ?_
  unfold k_jfirstDay at h
  refine zV_eq (lo2 := [(0, .ref a0), (1, .int x1), (2, .int x2), (3, .int x3)]) rfl rfl rfl rfl ?_
  refine zV_blk (pc' := 4) (lo' := [(0, .ref a0), (1, .int x1), (2, .int x2), (3, .int x3)]) (st' := [.int x3, .int x2, .int x1, .ref a0]) [.aload_n 0, .iload_n 1, .iload_n 2, .iload_n 3] (by decide +kernel) rfl ?_
  obtain ⟨v1, hv1, h⟩ := zbind h
  obtain ⟨b2, b3, hc4, hc5, hc6⟩ := ho0
  refine zV_roV (idx := 41) (rest := []) (fs := [.ref b2, .ref b3, .long x0.2.2.1, .long x0.2.2.2]) (ci := 4) (fun Q2 hQ2 => ck_jearlyDay s0 D cB cI cJ cD n x0 x1 x2 x3 a0 v1 hv1 ⟨b2, b3, hc4, hc5, hc6⟩ hQ2) oX4_earlyDay (Or.inl hc4) rfl (zT_mem 1350 (by decide +kernel) rfl) (zT_mem 1334 (by decide +kernel) rfl) (zT_mem 1335 (by decide +kernel) rfl) rfl rfl (Nat.le_of_ble_eq_true rfl) ⟨by decide, by decide⟩ (by decide +kernel) ?_
  refine zV_eq (st2 := [.long v1]) rfl rfl rfl rfl ?_
  refine zV_blk (pc' := 11) (lo' := [(4, .long v1), (0, .ref a0), (1, .int x1), (2, .int x2), (3, .int x3)]) (st' := [.long v1]) [.lstore 4, .lload 4] (by decide +kernel) rfl ?_
  refine zV_ldc2 (idx := 31) (v := (-1000000000000000)) (zT_mem 1327 (by decide +kernel) rfl) (by decide +kernel) ?_
  refine zV_blk (pc' := 15) (lo' := [(4, .long v1), (0, .ref a0), (1, .int x1), (2, .int x2), (3, .int x3)]) (st' := [.int (lg_cmp v1 (-1000000000000000))]) [.lcmp] (by decide +kernel) rfl ?_
  refine zV_lcmp_ne (tgt := 28) (off := 13) (by decide +kernel) (by decide) (fun q => ?_) (fun q => ?_)
  · replace h := zif_neg q h
    clear q
    refine zV_blk (pc' := 30) (lo' := [(4, .long v1), (0, .ref a0), (1, .int x1), (2, .int x2), (3, .int x3)]) (st' := [.long v1]) [.lload 4] (by decide +kernel) rfl ?_
    obtain rfl := Option.some.inj h
    exact zV_lret rfl (by decide +kernel) (hQ _ rfl)
  · replace h := zif_pos q h
    clear q
    refine zV_blk (pc' := 22) (lo' := [(4, .long v1), (0, .ref a0), (1, .int x1), (2, .int x2), (3, .int x3)]) (st' := [.int x3, .int x2, .int x1, .ref a0]) [.aload_n 0, .iload_n 1, .iload_n 2, .iload_n 3] (by decide +kernel) rfl ?_
    obtain ⟨v7, hv7, h⟩ := zbind h
    refine zV_roV (idx := 44) (rest := []) (fs := [.ref b2, .ref b3, .long x0.2.2.1, .long x0.2.2.2]) (ci := 4) (fun Q2 hQ2 => ck_jlateDay s0 D cB cI cJ cD n x0 x1 x2 x3 a0 v7 hv7 ⟨b2, b3, hc4, hc5, hc6⟩ hQ2) oX4_lateDay (Or.inl hc4) rfl (zT_mem 1351 (by decide +kernel) rfl) (zT_mem 1339 (by decide +kernel) rfl) (zT_mem 1340 (by decide +kernel) rfl) rfl rfl (Nat.le_of_ble_eq_true rfl) ⟨by decide, by decide⟩ (by decide +kernel) ?_
    refine zV_eq (st2 := [.long v7]) rfl rfl rfl rfl ?_
    refine zV_goto (tgt := 30) (off := 5) (by decide +kernel) (by decide) ?_
    obtain rfl := Option.some.inj h
    exact zV_lret rfl (by decide +kernel) (hQ _ rfl)

def w_join (n : Nat) (dv : Nat → Option vDes) (jv : Option vJoint) (x1 : Int32) (x2 : Int64) (x4 : Int32) (x5 : Int32) (x6 : Int32) (x7 : Int32) : Option (Int32 × (Option vJoint)) := (k_designAt dv x1).bind (fun v1 => zOm (v1) ((k_designAt dv x4).bind (fun v5 => zOm (v5) (some ((-2), jv)) (fun z7 => some ((-2), jv)))) (fun z3 => (k_designAt dv x4).bind (fun v9 => zOm (v9) (some ((-2), jv)) (fun z11 => (k_holds n z3 x2).bind (fun v13 => (if v13 = true then (k_numberOf n z11 x5 x6 x7).bind (fun v21 => (if (v21 : Int64) = ((-1000000000000000) : Int64) then some ((-2), jv) else (k_newJoint z3 z11 x2 (v21 - x2)).bind (fun v32 => some (1, (some v32))))) else some ((-2), jv)))))))
theorem oX11_join : zO yX11_join cX11_join 12 (some .int) 6 := ⟨zT_mem 1298 (by decide +kernel) rfl, zT_mem 89 (by decide +kernel) rfl, by decide +kernel, by decide +kernel, by decide +kernel⟩
set_option maxHeartbeats 4000000 in
set_option maxRecDepth 100000 in
theorem cw_join (s0 : State) (D : va_G) (X : Nat → Prop) (cB cI cJ cD : ClassId) (al l1 l2 l3 l4 l5 : Nat) (A : Nat → Int32) (tp : Nat → Int32) (dv : Nat → Option vDes) (cs : Nat → Int32) (cv : Nat → Option vDes) (jv : Option vJoint) (bo : Option (Nat → Int32)) (hg : Option (Nat → Int64)) (lw : Option (Nat → Int64)) (sb : vSB) (n : Nat) (x1 : Int32) (x2 : Int64) (x4 : Int32) (x5 : Int32) (x6 : Int32) (x7 : Int32) (x : Int32 × (Option vJoint)) (h : w_join n dv jv x1 x2 x4 x5 x6 x7 = some x) {hi hm : zHp} {nx : Nat} {Q : Option Value → zHp → zHp → Nat → Prop} (hW : lW X cB cI cJ cD al l1 l2 l3 l4 l5 A tp dv cs cv jv bo hg lw sb hi hm) (hQ0 : ∀ (hi' hm' : zHp) (nx' : Nat), zX hi hi' → lW X cB cI cJ cD al l1 l2 l3 l4 l5 A tp dv cs cv x.2 bo hg lw sb hi' hm' → lFr X hm hm' → Q (some (.int x.1)) hi' hm' nx') : zM s0 D (zty cB cI cJ cD) yX11_join cX11_join 12 (some .int) 4 91 1 4 [.ref al, .int x1, .long x2, .int x4, .int x5, .int x6, .int x7] hi hm nx Q := by
  have hQ : ∀ r : Int32 × (Option vJoint), x = r → ∀ (hi' hm' : zHp) (nx' : Nat), zX hi hi' → lW X cB cI cJ cD al l1 l2 l3 l4 l5 A tp dv cs cv r.2 bo hg lw sb hi' hm' → lFr X hm hm' → Q (some (.int r.1)) hi' hm' nx' := fun r hr => by subst hr; exact hQ0
  clear hQ0
  have hXX : zX hi hi := zX.rf
  have hFr : lFr X hm hm := lFr.rf
  refine zM_of (by decide +kernel) (Nat.le_of_ble_eq_true rfl) ?_
  unfold w_join at h
  refine zV_eq (lo2 := [(0, .ref al), (1, .int x1), (2, .long x2), (4, .int x4), (5, .int x5), (6, .int x6), (7, .int x7)]) rfl rfl rfl rfl ?_
  refine zV_blk (pc' := 2) (lo' := [(0, .ref al), (1, .int x1), (2, .long x2), (4, .int x4), (5, .int x5), (6, .int x6), (7, .int x7)]) (st' := [.int x1, .ref al]) [.aload_n 0, .iload_n 1] (by decide +kernel) rfl ?_
  obtain ⟨v1, hv1, h⟩ := zbind h
  refine zV_designAt (idx := 105) (rest := []) v1 hv1 hW.ld (zT_mem 603 (by decide +kernel) rfl) rfl (Nat.le_of_ble_eq_true rfl) ⟨by decide, by decide⟩ (by decide +kernel) (fun hx => ?_) (fun b2 z3 hx ho4 => ?_)
  · rw [hx] at h; replace h := zOm_none h
    refine zV_blk (pc' := 10) (lo' := [(8, .null), (0, .ref al), (1, .int x1), (2, .long x2), (4, .int x4), (5, .int x5), (6, .int x6), (7, .int x7)]) (st' := [.int x4, .ref al]) [.astore 8, .aload_n 0, .iload 4] (by decide +kernel) rfl ?_
    obtain ⟨v5, hv5, h⟩ := zbind h
    refine zV_designAt (idx := 105) (rest := []) v5 hv5 hW.ld (zT_mem 603 (by decide +kernel) rfl) rfl (Nat.le_of_ble_eq_true rfl) ⟨by decide, by decide⟩ (by decide +kernel) (fun hx => ?_) (fun b6 z7 hx ho8 => ?_)
    · rw [hx] at h; replace h := zOm_none h
      refine zV_blk (pc' := 17) (lo' := [(9, .null), (8, .null), (0, .ref al), (1, .int x1), (2, .long x2), (4, .int x4), (5, .int x5), (6, .int x6), (7, .int x7)]) (st' := [.null]) [.astore 9, .aload 8] (by decide +kernel) rfl ?_
      refine zV_ifnull (r := none) (tgt := 34) (off := 17) (by decide +kernel) (by decide) (fun _ => ?_) (fun _ q => by cases q)
      refine zV_less (mc' := 0) (ms' := 0) (by decide) (by decide) ?_
      refine zV_blk (pc' := 36) (lo' := [(9, .null), (8, .null), (0, .ref al), (1, .int x1), (2, .long x2), (4, .int x4), (5, .int x5), (6, .int x6), (7, .int x7)]) (st' := [.int (-2)]) [.bipush (-2)] (by decide +kernel) rfl ?_
      obtain rfl := Option.some.inj h
      exact zV_iret rfl (by decide +kernel) (hQ _ rfl _ _ _ hXX hW hFr)
    · rw [hx] at h; replace h := zOm_some h
      refine zV_blk (pc' := 17) (lo' := [(9, .ref b6), (8, .null), (0, .ref al), (1, .int x1), (2, .long x2), (4, .int x4), (5, .int x5), (6, .int x6), (7, .int x7)]) (st' := [.null]) [.astore 9, .aload 8] (by decide +kernel) rfl ?_
      refine zV_ifnull (r := none) (tgt := 34) (off := 17) (by decide +kernel) (by decide) (fun _ => ?_) (fun _ q => by cases q)
      refine zV_less (mc' := 0) (ms' := 0) (by decide) (by decide) ?_
      refine zV_blk (pc' := 36) (lo' := [(9, .ref b6), (8, .null), (0, .ref al), (1, .int x1), (2, .long x2), (4, .int x4), (5, .int x5), (6, .int x6), (7, .int x7)]) (st' := [.int (-2)]) [.bipush (-2)] (by decide +kernel) rfl ?_
      obtain rfl := Option.some.inj h
      exact zV_iret rfl (by decide +kernel) (hQ _ rfl _ _ _ hXX hW hFr)
  · rw [hx] at h; replace h := zOm_some h
    refine zV_blk (pc' := 10) (lo' := [(8, .ref b2), (0, .ref al), (1, .int x1), (2, .long x2), (4, .int x4), (5, .int x5), (6, .int x6), (7, .int x7)]) (st' := [.int x4, .ref al]) [.astore 8, .aload_n 0, .iload 4] (by decide +kernel) rfl ?_
    obtain ⟨v9, hv9, h⟩ := zbind h
    refine zV_designAt (idx := 105) (rest := []) v9 hv9 hW.ld (zT_mem 603 (by decide +kernel) rfl) rfl (Nat.le_of_ble_eq_true rfl) ⟨by decide, by decide⟩ (by decide +kernel) (fun hx => ?_) (fun b10 z11 hx ho12 => ?_)
    · rw [hx] at h; replace h := zOm_none h
      refine zV_blk (pc' := 17) (lo' := [(9, .null), (8, .ref b2), (0, .ref al), (1, .int x1), (2, .long x2), (4, .int x4), (5, .int x5), (6, .int x6), (7, .int x7)]) (st' := [.ref b2]) [.astore 9, .aload 8] (by decide +kernel) rfl ?_
      refine zV_ifnull (r := some b2) (tgt := 34) (off := 17) (by decide +kernel) (by decide) (fun q => by cases q) (fun _ _ => ?_)
      refine zV_blk (pc' := 22) (lo' := [(9, .null), (8, .ref b2), (0, .ref al), (1, .int x1), (2, .long x2), (4, .int x4), (5, .int x5), (6, .int x6), (7, .int x7)]) (st' := [.null]) [.aload 9] (by decide +kernel) rfl ?_
      refine zV_ifnull (r := none) (tgt := 34) (off := 12) (by decide +kernel) (by decide) (fun _ => ?_) (fun _ q => by cases q)
      refine zV_less (mc' := 0) (ms' := 0) (by decide) (by decide) ?_
      refine zV_blk (pc' := 36) (lo' := [(9, .null), (8, .ref b2), (0, .ref al), (1, .int x1), (2, .long x2), (4, .int x4), (5, .int x5), (6, .int x6), (7, .int x7)]) (st' := [.int (-2)]) [.bipush (-2)] (by decide +kernel) rfl ?_
      obtain rfl := Option.some.inj h
      exact zV_iret rfl (by decide +kernel) (hQ _ rfl _ _ _ hXX hW hFr)
    · rw [hx] at h; replace h := zOm_some h
      refine zV_blk (pc' := 17) (lo' := [(9, .ref b10), (8, .ref b2), (0, .ref al), (1, .int x1), (2, .long x2), (4, .int x4), (5, .int x5), (6, .int x6), (7, .int x7)]) (st' := [.ref b2]) [.astore 9, .aload 8] (by decide +kernel) rfl ?_
      refine zV_ifnull (r := some b2) (tgt := 34) (off := 17) (by decide +kernel) (by decide) (fun q => by cases q) (fun _ _ => ?_)
      refine zV_blk (pc' := 22) (lo' := [(9, .ref b10), (8, .ref b2), (0, .ref al), (1, .int x1), (2, .long x2), (4, .int x4), (5, .int x5), (6, .int x6), (7, .int x7)]) (st' := [.ref b10]) [.aload 9] (by decide +kernel) rfl ?_
      refine zV_ifnull (r := some b10) (tgt := 34) (off := 12) (by decide +kernel) (by decide) (fun q => by cases q) (fun _ _ => ?_)
      refine zV_blk (pc' := 28) (lo' := [(9, .ref b10), (8, .ref b2), (0, .ref al), (1, .int x1), (2, .long x2), (4, .int x4), (5, .int x5), (6, .int x6), (7, .int x7)]) (st' := [.long x2, .ref b2]) [.aload 8, .lload_n 2] (by decide +kernel) rfl ?_
      obtain ⟨v13, hv13, h⟩ := zbind h
      obtain ⟨b14, b15, b16, hc17, hc18, hc19, hc20⟩ := ho4
      refine zV_roV (idx := 248) (rest := []) (fs := [.ref b14, .ref b15, .ref b16]) (ci := 0) (fun Q2 hQ2 => ck_holds s0 D cB cI cJ cD n z3 x2 b2 v13 hv13 ⟨b14, b15, b16, hc17, hc18, hc19, hc20⟩ hQ2) oX0_holds (Or.inl hc17) rfl (zT_mem 1108 (by decide +kernel) rfl) (zT_mem 1059 (by decide +kernel) rfl) (zT_mem 1060 (by decide +kernel) rfl) rfl rfl (Nat.le_of_ble_eq_true rfl) ⟨by decide, by decide⟩ (by decide +kernel) ?_
      refine zV_eq (st2 := [.int (zb v13)]) rfl rfl rfl rfl ?_
      refine zV_bif_ne (tgt := 37) (off := 6) (by decide +kernel) (by decide) (fun q => ?_) (fun q => ?_)
      · replace h := zif_pos q h
        clear q
        refine zV_blk (pc' := 45) (lo' := [(9, .ref b10), (8, .ref b2), (0, .ref al), (1, .int x1), (2, .long x2), (4, .int x4), (5, .int x5), (6, .int x6), (7, .int x7)]) (st' := [.int x7, .int x6, .int x5, .ref b10]) [.aload 9, .iload 5, .iload 6, .iload 7] (by decide +kernel) rfl ?_
        obtain ⟨v21, hv21, h⟩ := zbind h
        obtain ⟨b22, b23, b24, hc25, hc26, hc27, hc28⟩ := ho12
        refine zV_roV (idx := 240) (rest := []) (fs := [.ref b22, .ref b23, .ref b24]) (ci := 0) (fun Q2 hQ2 => ck_numberOf s0 D cB cI cJ cD n z11 x5 x6 x7 b10 v21 hv21 ⟨b22, b23, b24, hc25, hc26, hc27, hc28⟩ hQ2) oX0_numberOf (Or.inl hc25) rfl (zT_mem 1091 (by decide +kernel) rfl) (zT_mem 1092 (by decide +kernel) rfl) (zT_mem 1093 (by decide +kernel) rfl) rfl rfl (Nat.le_of_ble_eq_true rfl) ⟨by decide, by decide⟩ (by decide +kernel) ?_
        refine zV_eq (st2 := [.long v21]) rfl rfl rfl rfl ?_
        refine zV_blk (pc' := 52) (lo' := [(10, .long v21), (9, .ref b10), (8, .ref b2), (0, .ref al), (1, .int x1), (2, .long x2), (4, .int x4), (5, .int x5), (6, .int x6), (7, .int x7)]) (st' := [.long v21]) [.lstore 10, .lload 10] (by decide +kernel) rfl ?_
        refine zV_ldc2 (idx := 164) (v := (-1000000000000000)) (zT_mem 681 (by decide +kernel) rfl) (by decide +kernel) ?_
        refine zV_blk (pc' := 56) (lo' := [(10, .long v21), (9, .ref b10), (8, .ref b2), (0, .ref al), (1, .int x1), (2, .long x2), (4, .int x4), (5, .int x5), (6, .int x6), (7, .int x7)]) (st' := [.int (lg_cmp v21 (-1000000000000000))]) [.lcmp] (by decide +kernel) rfl ?_
        refine zV_lcmp_ne (tgt := 62) (off := 6) (by decide +kernel) (by decide) (fun q => ?_) (fun q => ?_)
        · replace h := zif_neg q h
          clear q
          refine zV_blk (pc' := 63) (lo' := [(10, .long v21), (9, .ref b10), (8, .ref b2), (0, .ref al), (1, .int x1), (2, .long x2), (4, .int x4), (5, .int x5), (6, .int x6), (7, .int x7)]) (st' := [.ref al]) [.aload_n 0] (by decide +kernel) rfl ?_
          refine zV_newX (mc := 0) (ms := 0) (ci := 4) (idx := 357) (N := 4) (fs := [.null, .null, .long 0, .long 0]) tyX4 rfl z_in4 tyX4_ok (zT_mem 1299 (by decide +kernel) rfl) (zT_mem 1300 (by decide +kernel) rfl) (zT_mem 112 (by decide +kernel) rfl) (fun j hj => by rcases (show j = 0 ∨ j = 1 ∨ j = 2 ∨ j = 3 by omega) with rfl | rfl | rfl | rfl <;> rfl) (by decide +kernel) (fun _ hn30 => ?_)
          obtain ⟨b31, heb31⟩ : ∃ z : Nat, z = nx := ⟨_, rfl⟩
          rw [← heb31] at hn30 ⊢
          obtain ⟨nb31, henb31⟩ : ∃ z : Nat, z = b31 + 1 := ⟨_, rfl⟩
          rw [← henb31]; clear henb31 heb31
          refine zV_blk (pc' := 76) (lo' := [(10, .long v21), (9, .ref b10), (8, .ref b2), (0, .ref al), (1, .int x1), (2, .long x2), (4, .int x4), (5, .int x5), (6, .int x6), (7, .int x7)]) (st' := [.long (v21 - x2), .long x2, .ref b10, .ref b2, .ref b31, .ref b31, .ref al]) [.dup, .aload 8, .aload 9, .lload_n 2, .lload 10, .lload_n 2, .lsub] (by decide +kernel) rfl ?_
          obtain ⟨v32, hv32, h⟩ := zbind h
          refine zV_mk (idx := 359) (As := [.ref b2, .ref b10, .long x2, .long (v21 - x2)]) (rest := [.ref b31, .ref al]) (e := .inr (4, [.ref b2, .ref b10, .long v32.2.2.1, .long v32.2.2.2])) (fun Q2 hQ2 => ck_newJoint s0 D cB cI cJ cD z3 z11 x2 (v21 - x2) b31 b2 b10 v32 hv32 ⟨b14, b15, b16, hc17, hc18, hc19, hc20⟩ ⟨b22, b23, b24, hc25, hc26, hc27, hc28⟩ (by simp [va_up]) hQ2) oX4_init rfl (zT_mem 1301 (by decide +kernel) rfl) (zT_mem 1302 (by decide +kernel) rfl) rfl rfl (Nat.le_of_ble_eq_true rfl) ⟨by decide, by decide⟩ (by decide +kernel) hn30 (fun hi2 hX hc33 => ?_)
          replace hc25 := hX _ _ hc25
          replace hc26 := hc26.mono hX
          replace hc27 := hc27.mono hX
          replace hc28 := hc28.mono hX
          replace hc17 := hX _ _ hc17
          replace hc18 := hc18.mono hX
          replace hc19 := hc19.mono hX
          replace hc20 := hc20.mono hX
          replace hW := hW.mono hX
          replace hXX := hXX.tr hX; clear hX
          have eq34 : v32.1 = z3 := by have hv := hv32; unfold k_newJoint at hv; first | (cases hv; rfl) | (obtain ⟨w, hw, hv⟩ := zbind hv; cases hv; rfl)
          have eq35 : v32.2.1 = z11 := by have hv := hv32; unfold k_newJoint at hv; first | (cases hv; rfl) | (obtain ⟨w, hw, hv⟩ := zbind hv; cases hv; rfl)
          have ho36 : iJoint cI hi2 b31 v32 := ⟨b2, b10, hc33, (by rw [eq34]; exact ⟨b14, b15, b16, hc17, hc18, hc19, hc20⟩), (by rw [eq35]; exact ⟨b22, b23, b24, hc25, hc26, hc27, hc28⟩)⟩
          refine l_putJ (idx := 49) hW ho36 (zT_mem 166 (by decide +kernel) rfl) (by decide +kernel) (fun hm hW hFr2 => ?_)
          replace hFr := hFr.tr hFr2; clear hFr2
          refine zV_blk (pc' := 83) (lo' := [(10, .long v21), (9, .ref b10), (8, .ref b2), (0, .ref al), (1, .int x1), (2, .long x2), (4, .int x4), (5, .int x5), (6, .int x6), (7, .int x7)]) (st' := [.int 1]) [.iconst 1] (by decide +kernel) rfl ?_
          obtain rfl := Option.some.inj h
          exact zV_iret rfl (by decide +kernel) (hQ _ rfl _ _ _ hXX hW hFr)
        · replace h := zif_pos q h
          clear q
          refine zV_less (mc' := 0) (ms' := 0) (by decide) (by decide) ?_
          refine zV_blk (pc' := 61) (lo' := [(10, .long v21), (9, .ref b10), (8, .ref b2), (0, .ref al), (1, .int x1), (2, .long x2), (4, .int x4), (5, .int x5), (6, .int x6), (7, .int x7)]) (st' := [.int (-2)]) [.bipush (-2)] (by decide +kernel) rfl ?_
          obtain rfl := Option.some.inj h
          exact zV_iret rfl (by decide +kernel) (hQ _ rfl _ _ _ hXX hW hFr)
      · replace h := zif_neg q h
        clear q
        refine zV_less (mc' := 0) (ms' := 0) (by decide) (by decide) ?_
        refine zV_blk (pc' := 36) (lo' := [(9, .ref b10), (8, .ref b2), (0, .ref al), (1, .int x1), (2, .long x2), (4, .int x4), (5, .int x5), (6, .int x6), (7, .int x7)]) (st' := [.int (-2)]) [.bipush (-2)] (by decide +kernel) rfl ?_
        obtain rfl := Option.some.inj h
        exact zV_iret rfl (by decide +kernel) (hQ _ rfl _ _ _ hXX hW hFr)

def w_joined (n : Nat) (jv : Option vJoint) (x1 : Int64) (x3 : Int32) : Option (Int64) := zOm (jv) (some (-1000000000000000)) (fun z2 => zOm (jv) (none) (fun z5 => (k_jtellDate n z5 x1 x3).bind (fun v7 => some v7)))
theorem oX11_joined : zO yX11_joined cX11_joined 4 (some .long) 2 := ⟨zT_mem 1321 (by decide +kernel) rfl, zT_mem 89 (by decide +kernel) rfl, by decide +kernel, by decide +kernel, by decide +kernel⟩
set_option maxHeartbeats 4000000 in
set_option maxRecDepth 100000 in
theorem cw_joined (s0 : State) (D : va_G) (X : Nat → Prop) (cB cI cJ cD : ClassId) (al l1 l2 l3 l4 l5 : Nat) (A : Nat → Int32) (tp : Nat → Int32) (dv : Nat → Option vDes) (cs : Nat → Int32) (cv : Nat → Option vDes) (jv : Option vJoint) (bo : Option (Nat → Int32)) (hg : Option (Nat → Int64)) (lw : Option (Nat → Int64)) (sb : vSB) (n : Nat) (x1 : Int64) (x3 : Int32) (x : Int64) (h : w_joined n jv x1 x3 = some x) {hi hm : zHp} {nx : Nat} {Q : Option Value → zHp → zHp → Nat → Prop} (hW : lW X cB cI cJ cD al l1 l2 l3 l4 l5 A tp dv cs cv jv bo hg lw sb hi hm) (hQ0 : ∀ (hi' hm' : zHp) (nx' : Nat), zX hi hi' → lW X cB cI cJ cD al l1 l2 l3 l4 l5 A tp dv cs cv jv bo hg lw sb hi' hm' → lFr X hm hm' → Q (some (.long x)) hi' hm' nx') : zM s0 D (zty cB cI cJ cD) yX11_joined cX11_joined 4 (some .long) 6 143 0 0 [.ref al, .long x1, .int x3] hi hm nx Q := by
  have hQ : ∀ r : Int64, x = r → ∀ (hi' hm' : zHp) (nx' : Nat), zX hi hi' → lW X cB cI cJ cD al l1 l2 l3 l4 l5 A tp dv cs cv jv bo hg lw sb hi' hm' → lFr X hm hm' → Q (some (.long r)) hi' hm' nx' := fun r hr => by subst hr; exact hQ0
  clear hQ0
  have hXX : zX hi hi := zX.rf
  have hFr : lFr X hm hm := lFr.rf
  refine zM_of (by decide +kernel) (Nat.le_of_ble_eq_true rfl) ?_
  unfold w_joined at h
  refine zV_eq (lo2 := [(0, .ref al), (1, .long x1), (3, .int x3)]) rfl rfl rfl rfl ?_
  refine zV_blk (pc' := 1) (lo' := [(0, .ref al), (1, .long x1), (3, .int x3)]) (st' := [.ref al]) [.aload_n 0] (by decide +kernel) rfl ?_
  refine l_getJ (idx := 49) hW (zT_mem 166 (by decide +kernel) rfl) (by decide +kernel) (fun hx => ?_) (fun b1 z2 hx ho3 => ?_)
  · replace h := zOm_n hx h
    refine zV_ifnonnull (r := none) (tgt := 13) (off := 9) (by decide +kernel) (by decide) (fun _ q => by cases q) (fun _ => ?_)
    refine zV_ldc2 (idx := 164) (v := (-1000000000000000)) (zT_mem 681 (by decide +kernel) rfl) (by decide +kernel) ?_
    refine zV_goto (tgt := 22) (off := 12) (by decide +kernel) (by decide) ?_
    obtain rfl := Option.some.inj h
    exact zV_lret rfl (by decide +kernel) (hQ _ rfl _ _ _ hXX hW hFr)
  · replace h := zOm_s hx h
    refine zV_ifnonnull (r := some b1) (tgt := 13) (off := 9) (by decide +kernel) (by decide) (fun _ _ => ?_) (fun q => by cases q)
    refine zV_blk (pc' := 14) (lo' := [(0, .ref al), (1, .long x1), (3, .int x3)]) (st' := [.ref al]) [.aload_n 0] (by decide +kernel) rfl ?_
    refine l_getJ (idx := 49) hW (zT_mem 166 (by decide +kernel) rfl) (by decide +kernel) (fun hx => ?_) (fun b4 z5 hx ho6 => ?_)
    · replace h := zOm_n hx h
      refine zV_blk (pc' := 19) (lo' := [(0, .ref al), (1, .long x1), (3, .int x3)]) (st' := [.int x3, .long x1, .null]) [.lload_n 1, .iload_n 3] (by decide +kernel) rfl ?_
      cases h
    · replace h := zOm_s hx h
      refine zV_blk (pc' := 19) (lo' := [(0, .ref al), (1, .long x1), (3, .int x3)]) (st' := [.int x3, .long x1, .ref b4]) [.lload_n 1, .iload_n 3] (by decide +kernel) rfl ?_
      obtain ⟨v7, hv7, h⟩ := zbind h
      obtain ⟨b8, b9, hc10, hc11, hc12⟩ := ho6
      refine zV_roV (idx := 362) (rest := []) (fs := [.ref b8, .ref b9, .long z5.2.2.1, .long z5.2.2.2]) (ci := 4) (fun Q2 hQ2 => ck_jtellDate s0 D cB cI cJ cD n z5 x1 x3 b4 v7 hv7 ⟨b8, b9, hc10, hc11, hc12⟩ hQ2) oX4_tellDate (Or.inl hc10) rfl (zT_mem 1322 (by decide +kernel) rfl) (zT_mem 1323 (by decide +kernel) rfl) (zT_mem 1324 (by decide +kernel) rfl) rfl rfl (Nat.le_of_ble_eq_true rfl) ⟨by decide, by decide⟩ (by decide +kernel) ?_
      refine zV_eq (st2 := [.long v7]) rfl rfl rfl rfl ?_
      obtain rfl := Option.some.inj h
      exact zV_lret rfl (by decide +kernel) (hQ _ rfl _ _ _ hXX hW hFr)

def w_often_55 (n : Nat) (jv : Option vJoint) (x4 : Int32) (t0 : Int32) : Option (Int32) := some (x4 + t0)
set_option maxHeartbeats 4000000 in
set_option maxRecDepth 100000 in
theorem cw_often_55 (s0 : State) (D : va_G) (X : Nat → Prop) (cB cI cJ cD : ClassId) (al l1 l2 l3 l4 l5 : Nat) (A : Nat → Int32) (tp : Nat → Int32) (dv : Nat → Option vDes) (cs : Nat → Int32) (cv : Nat → Option vDes) (jv : Option vJoint) (bo : Option (Nat → Int32)) (hg : Option (Nat → Int64)) (lw : Option (Nat → Int64)) (sb : vSB) (n : Nat) (x4 : Int32) (t0 : Int32) {x : Int32} {hi0 hi hm0 hm : zHp} {nx : Nat} {Q : Option Value → zHp → zHp → Nat → Prop} (hW : lW X cB cI cJ cD al l1 l2 l3 l4 l5 A tp dv cs cv jv bo hg lw sb hi hm) (hXX : zX hi0 hi) (hFr : lFr X hm0 hm) (h : w_often_55 n jv x4 t0 = some x) (hQ : ∀ r : Int32, x = r → ∀ (hi' hm' : zHp) (nx' : Nat), zX hi0 hi' → lW X cB cI cJ cD al l1 l2 l3 l4 l5 A tp dv cs cv jv bo hg lw sb hi' hm' → lFr X hm0 hm' → Q (some (.int r)) hi' hm' nx') : zV s0 D (zty cB cI cJ cD) yX11_often cX11_often 6 (some .int) 5 118 0 0 55 [(4, .int x4)] [.int t0] hi hm nx Q := by
  unfold w_often_55 at h
  refine zV_blk (pc' := 62) (lo' := [(5, .int t0), (4, .int x4)]) (st' := [.int (x4 + t0)]) [.istore 5, .iload 4, .iload 5, .iadd] (by decide +kernel) rfl ?_
  obtain rfl := Option.some.inj h
  exact zV_iret rfl (by decide +kernel) (hQ _ rfl _ _ _ hXX hW hFr)
def w_often_31 (n : Nat) (jv : Option vJoint) (x1 : Int32) (x2 : Int32) (x3 : Int32) (t0 : Int32) : Option (Int32) := zOm (jv) (none) (fun z2 => (k_jlateDay n z2 x1 x2 x3).bind (fun v4 => (if (v4 : Int64) = ((-1000000000000000) : Int64) then (w_often_55 n jv t0 0) else (w_often_55 n jv t0 1))))
set_option maxHeartbeats 4000000 in
set_option maxRecDepth 100000 in
theorem cw_often_31 (s0 : State) (D : va_G) (X : Nat → Prop) (cB cI cJ cD : ClassId) (al l1 l2 l3 l4 l5 : Nat) (A : Nat → Int32) (tp : Nat → Int32) (dv : Nat → Option vDes) (cs : Nat → Int32) (cv : Nat → Option vDes) (jv : Option vJoint) (bo : Option (Nat → Int32)) (hg : Option (Nat → Int64)) (lw : Option (Nat → Int64)) (sb : vSB) (n : Nat) (x1 : Int32) (x2 : Int32) (x3 : Int32) (t0 : Int32) {x : Int32} {hi0 hi hm0 hm : zHp} {nx : Nat} {Q : Option Value → zHp → zHp → Nat → Prop} (hW : lW X cB cI cJ cD al l1 l2 l3 l4 l5 A tp dv cs cv jv bo hg lw sb hi hm) (hXX : zX hi0 hi) (hFr : lFr X hm0 hm) (h : w_often_31 n jv x1 x2 x3 t0 = some x) (hQ : ∀ r : Int32, x = r → ∀ (hi' hm' : zHp) (nx' : Nat), zX hi0 hi' → lW X cB cI cJ cD al l1 l2 l3 l4 l5 A tp dv cs cv jv bo hg lw sb hi' hm' → lFr X hm0 hm' → Q (some (.int r)) hi' hm' nx') : zV s0 D (zty cB cI cJ cD) yX11_often cX11_often 6 (some .int) 5 118 0 0 31 [(0, .ref al), (1, .int x1), (2, .int x2), (3, .int x3)] [.int t0] hi hm nx Q := by
  unfold w_often_31 at h
  refine zV_blk (pc' := 34) (lo' := [(4, .int t0), (0, .ref al), (1, .int x1), (2, .int x2), (3, .int x3)]) (st' := [.ref al]) [.istore 4, .aload_n 0] (by decide +kernel) rfl ?_
  refine l_getJ (idx := 49) hW (zT_mem 166 (by decide +kernel) rfl) (by decide +kernel) (fun hx => ?_) (fun b1 z2 hx ho3 => ?_)
  · replace h := zOm_n hx h
    refine zV_blk (pc' := 40) (lo' := [(4, .int t0), (0, .ref al), (1, .int x1), (2, .int x2), (3, .int x3)]) (st' := [.int x3, .int x2, .int x1, .null]) [.iload_n 1, .iload_n 2, .iload_n 3] (by decide +kernel) rfl ?_
    cases h
  · replace h := zOm_s hx h
    refine zV_blk (pc' := 40) (lo' := [(4, .int t0), (0, .ref al), (1, .int x1), (2, .int x2), (3, .int x3)]) (st' := [.int x3, .int x2, .int x1, .ref b1]) [.iload_n 1, .iload_n 2, .iload_n 3] (by decide +kernel) rfl ?_
    obtain ⟨v4, hv4, h⟩ := zbind h
    obtain ⟨b5, b6, hc7, hc8, hc9⟩ := ho3
    refine zV_roV (idx := 366) (rest := []) (fs := [.ref b5, .ref b6, .long z2.2.2.1, .long z2.2.2.2]) (ci := 4) (fun Q2 hQ2 => ck_jlateDay s0 D cB cI cJ cD n z2 x1 x2 x3 b1 v4 hv4 ⟨b5, b6, hc7, hc8, hc9⟩ hQ2) oX4_lateDay (Or.inl hc7) rfl (zT_mem 1338 (by decide +kernel) rfl) (zT_mem 1339 (by decide +kernel) rfl) (zT_mem 1340 (by decide +kernel) rfl) rfl rfl (Nat.le_of_ble_eq_true rfl) ⟨by decide, by decide⟩ (by decide +kernel) ?_
    refine zV_eq (st2 := [.long v4]) rfl rfl rfl rfl ?_
    refine zV_ldc2 (idx := 164) (v := (-1000000000000000)) (zT_mem 681 (by decide +kernel) rfl) (by decide +kernel) ?_
    refine zV_blk (pc' := 47) (lo' := [(4, .int t0), (0, .ref al), (1, .int x1), (2, .int x2), (3, .int x3)]) (st' := [.int (lg_cmp v4 (-1000000000000000))]) [.lcmp] (by decide +kernel) rfl ?_
    refine zV_lcmp_ne (tgt := 54) (off := 7) (by decide +kernel) (by decide) (fun q => ?_) (fun q => ?_)
    · replace h := zif_neg q h
      clear q
      refine zV_blk (pc' := 55) (lo' := [(4, .int t0), (0, .ref al), (1, .int x1), (2, .int x2), (3, .int x3)]) (st' := [.int 1]) [.iconst 1] (by decide +kernel) rfl ?_
      refine zV_pick (lo2 := [(4, .int t0)]) [0] rfl ?_
      exact cw_often_55 s0 D X cB cI cJ cD al l1 l2 l3 l4 l5 A tp dv cs cv jv bo hg lw sb n t0 1  hW  hXX hFr h hQ
    · replace h := zif_pos q h
      clear q
      refine zV_blk (pc' := 51) (lo' := [(4, .int t0), (0, .ref al), (1, .int x1), (2, .int x2), (3, .int x3)]) (st' := [.int 0]) [.iconst 0] (by decide +kernel) rfl ?_
      refine zV_goto (tgt := 55) (off := 4) (by decide +kernel) (by decide) ?_
      refine zV_pick (lo2 := [(4, .int t0)]) [0] rfl ?_
      exact cw_often_55 s0 D X cB cI cJ cD al l1 l2 l3 l4 l5 A tp dv cs cv jv bo hg lw sb n t0 0  hW  hXX hFr h hQ
def w_often (n : Nat) (jv : Option vJoint) (x1 : Int32) (x2 : Int32) (x3 : Int32) : Option (Int32) := zOm (jv) (some (-1)) (fun z2 => zOm (jv) (none) (fun z5 => (k_jearlyDay n z5 x1 x2 x3).bind (fun v7 => (if (v7 : Int64) = ((-1000000000000000) : Int64) then (w_often_31 n jv x1 x2 x3 0) else (w_often_31 n jv x1 x2 x3 1)))))
theorem oX11_often : zO yX11_often cX11_often 6 (some .int) 3 := ⟨zT_mem 1332 (by decide +kernel) rfl, zT_mem 89 (by decide +kernel) rfl, by decide +kernel, by decide +kernel, by decide +kernel⟩
set_option maxHeartbeats 4000000 in
set_option maxRecDepth 100000 in
theorem cw_often (s0 : State) (D : va_G) (X : Nat → Prop) (cB cI cJ cD : ClassId) (al l1 l2 l3 l4 l5 : Nat) (A : Nat → Int32) (tp : Nat → Int32) (dv : Nat → Option vDes) (cs : Nat → Int32) (cv : Nat → Option vDes) (jv : Option vJoint) (bo : Option (Nat → Int32)) (hg : Option (Nat → Int64)) (lw : Option (Nat → Int64)) (sb : vSB) (n : Nat) (x1 : Int32) (x2 : Int32) (x3 : Int32) (x : Int32) (h : w_often n jv x1 x2 x3 = some x) {hi hm : zHp} {nx : Nat} {Q : Option Value → zHp → zHp → Nat → Prop} (hW : lW X cB cI cJ cD al l1 l2 l3 l4 l5 A tp dv cs cv jv bo hg lw sb hi hm) (hQ0 : ∀ (hi' hm' : zHp) (nx' : Nat), zX hi hi' → lW X cB cI cJ cD al l1 l2 l3 l4 l5 A tp dv cs cv jv bo hg lw sb hi' hm' → lFr X hm hm' → Q (some (.int x)) hi' hm' nx') : zM s0 D (zty cB cI cJ cD) yX11_often cX11_often 6 (some .int) 5 118 0 0 [.ref al, .int x1, .int x2, .int x3] hi hm nx Q := by
  have hQ : ∀ r : Int32, x = r → ∀ (hi' hm' : zHp) (nx' : Nat), zX hi hi' → lW X cB cI cJ cD al l1 l2 l3 l4 l5 A tp dv cs cv jv bo hg lw sb hi' hm' → lFr X hm hm' → Q (some (.int r)) hi' hm' nx' := fun r hr => by subst hr; exact hQ0
  clear hQ0
  have hXX : zX hi hi := zX.rf
  have hFr : lFr X hm hm := lFr.rf
  refine zM_of (by decide +kernel) (Nat.le_of_ble_eq_true rfl) ?_
  unfold w_often at h
  refine zV_eq (lo2 := [(0, .ref al), (1, .int x1), (2, .int x2), (3, .int x3)]) rfl rfl rfl rfl ?_
  refine zV_blk (pc' := 1) (lo' := [(0, .ref al), (1, .int x1), (2, .int x2), (3, .int x3)]) (st' := [.ref al]) [.aload_n 0] (by decide +kernel) rfl ?_
  refine l_getJ (idx := 49) hW (zT_mem 166 (by decide +kernel) rfl) (by decide +kernel) (fun hx => ?_) (fun b1 z2 hx ho3 => ?_)
  · replace h := zOm_n hx h
    refine zV_ifnonnull (r := none) (tgt := 9) (off := 5) (by decide +kernel) (by decide) (fun _ q => by cases q) (fun _ => ?_)
    refine zV_blk (pc' := 8) (lo' := [(0, .ref al), (1, .int x1), (2, .int x2), (3, .int x3)]) (st' := [.int (-1)]) [.iconst (-1)] (by decide +kernel) rfl ?_
    obtain rfl := Option.some.inj h
    exact zV_iret rfl (by decide +kernel) (hQ _ rfl _ _ _ hXX hW hFr)
  · replace h := zOm_s hx h
    refine zV_ifnonnull (r := some b1) (tgt := 9) (off := 5) (by decide +kernel) (by decide) (fun _ _ => ?_) (fun q => by cases q)
    refine zV_blk (pc' := 10) (lo' := [(0, .ref al), (1, .int x1), (2, .int x2), (3, .int x3)]) (st' := [.ref al]) [.aload_n 0] (by decide +kernel) rfl ?_
    refine l_getJ (idx := 49) hW (zT_mem 166 (by decide +kernel) rfl) (by decide +kernel) (fun hx => ?_) (fun b4 z5 hx ho6 => ?_)
    · replace h := zOm_n hx h
      refine zV_blk (pc' := 16) (lo' := [(0, .ref al), (1, .int x1), (2, .int x2), (3, .int x3)]) (st' := [.int x3, .int x2, .int x1, .null]) [.iload_n 1, .iload_n 2, .iload_n 3] (by decide +kernel) rfl ?_
      cases h
    · replace h := zOm_s hx h
      refine zV_blk (pc' := 16) (lo' := [(0, .ref al), (1, .int x1), (2, .int x2), (3, .int x3)]) (st' := [.int x3, .int x2, .int x1, .ref b4]) [.iload_n 1, .iload_n 2, .iload_n 3] (by decide +kernel) rfl ?_
      obtain ⟨v7, hv7, h⟩ := zbind h
      obtain ⟨b8, b9, hc10, hc11, hc12⟩ := ho6
      refine zV_roV (idx := 363) (rest := []) (fs := [.ref b8, .ref b9, .long z5.2.2.1, .long z5.2.2.2]) (ci := 4) (fun Q2 hQ2 => ck_jearlyDay s0 D cB cI cJ cD n z5 x1 x2 x3 b4 v7 hv7 ⟨b8, b9, hc10, hc11, hc12⟩ hQ2) oX4_earlyDay (Or.inl hc10) rfl (zT_mem 1333 (by decide +kernel) rfl) (zT_mem 1334 (by decide +kernel) rfl) (zT_mem 1335 (by decide +kernel) rfl) rfl rfl (Nat.le_of_ble_eq_true rfl) ⟨by decide, by decide⟩ (by decide +kernel) ?_
      refine zV_eq (st2 := [.long v7]) rfl rfl rfl rfl ?_
      refine zV_ldc2 (idx := 164) (v := (-1000000000000000)) (zT_mem 681 (by decide +kernel) rfl) (by decide +kernel) ?_
      refine zV_blk (pc' := 23) (lo' := [(0, .ref al), (1, .int x1), (2, .int x2), (3, .int x3)]) (st' := [.int (lg_cmp v7 (-1000000000000000))]) [.lcmp] (by decide +kernel) rfl ?_
      refine zV_lcmp_ne (tgt := 30) (off := 7) (by decide +kernel) (by decide) (fun q => ?_) (fun q => ?_)
      · replace h := zif_neg q h
        clear q
        refine zV_blk (pc' := 31) (lo' := [(0, .ref al), (1, .int x1), (2, .int x2), (3, .int x3)]) (st' := [.int 1]) [.iconst 1] (by decide +kernel) rfl ?_
        refine zV_pick (lo2 := [(0, .ref al), (1, .int x1), (2, .int x2), (3, .int x3)]) [0, 1, 2, 3] rfl ?_
        exact cw_often_31 s0 D X cB cI cJ cD al l1 l2 l3 l4 l5 A tp dv cs cv jv bo hg lw sb n x1 x2 x3 1  hW  hXX hFr h hQ
      · replace h := zif_pos q h
        clear q
        refine zV_blk (pc' := 27) (lo' := [(0, .ref al), (1, .int x1), (2, .int x2), (3, .int x3)]) (st' := [.int 0]) [.iconst 0] (by decide +kernel) rfl ?_
        refine zV_goto (tgt := 31) (off := 4) (by decide +kernel) (by decide) ?_
        refine zV_pick (lo2 := [(0, .ref al), (1, .int x1), (2, .int x2), (3, .int x3)]) [0, 1, 2, 3] rfl ?_
        exact cw_often_31 s0 D X cB cI cJ cD al l1 l2 l3 l4 l5 A tp dv cs cv jv bo hg lw sb n x1 x2 x3 0  hW  hXX hFr h hQ

def w_span_56 (n : Nat) (jv : Option vJoint) : Option (Int64) := some (-1000000000000000)
set_option maxHeartbeats 4000000 in
set_option maxRecDepth 100000 in
theorem cw_span_56 (s0 : State) (D : va_G) (X : Nat → Prop) (cB cI cJ cD : ClassId) (al l1 l2 l3 l4 l5 : Nat) (A : Nat → Int32) (tp : Nat → Int32) (dv : Nat → Option vDes) (cs : Nat → Int32) (cv : Nat → Option vDes) (jv : Option vJoint) (bo : Option (Nat → Int32)) (hg : Option (Nat → Int64)) (lw : Option (Nat → Int64)) (sb : vSB) (n : Nat) {x : Int64} {hi0 hi hm0 hm : zHp} {nx : Nat} {Q : Option Value → zHp → zHp → Nat → Prop} (hW : lW X cB cI cJ cD al l1 l2 l3 l4 l5 A tp dv cs cv jv bo hg lw sb hi hm) (hXX : zX hi0 hi) (hFr : lFr X hm0 hm) (h : w_span_56 n jv  = some x) (hQ : ∀ r : Int64, x = r → ∀ (hi' hm' : zHp) (nx' : Nat), zX hi0 hi' → lW X cB cI cJ cD al l1 l2 l3 l4 l5 A tp dv cs cv jv bo hg lw sb hi' hm' → lFr X hm0 hm' → Q (some (.long r)) hi' hm' nx') : zV s0 D (zty cB cI cJ cD) yX11_span cX11_span 11 (some .long) 6 143 0 0 56 [] [] hi hm nx Q := by
  unfold w_span_56 at h
  refine zV_ldc2 (idx := 164) (v := (-1000000000000000)) (zT_mem 681 (by decide +kernel) rfl) (by decide +kernel) ?_
  refine zV_goto (tgt := 67) (off := 8) (by decide +kernel) (by decide) ?_
  obtain rfl := Option.some.inj h
  exact zV_lret rfl (by decide +kernel) (hQ _ rfl _ _ _ hXX hW hFr)
def w_span (n : Nat) (jv : Option vJoint) (x1 : Int32) (x2 : Int32) (x3 : Int32) (x4 : Int32) (x5 : Int32) (x6 : Int32) : Option (Int64) := zOm (jv) (some (-1000000000000000)) (fun z2 => zOm (jv) (none) (fun z5 => (k_jfirstDay n z5 x1 x2 x3).bind (fun v7 => zOm (jv) (none) (fun z14 => (k_jfirstDay n z14 x4 x5 x6).bind (fun v16 => (if (v7 : Int64) = ((-1000000000000000) : Int64) then (w_span_56 n jv  ) else (if (v16 : Int64) = ((-1000000000000000) : Int64) then (w_span_56 n jv  ) else some (v16 - v7))))))))
theorem oX11_span : zO yX11_span cX11_span 11 (some .long) 6 := ⟨zT_mem 1345 (by decide +kernel) rfl, zT_mem 89 (by decide +kernel) rfl, by decide +kernel, by decide +kernel, by decide +kernel⟩
set_option maxHeartbeats 4000000 in
set_option maxRecDepth 100000 in
theorem cw_span (s0 : State) (D : va_G) (X : Nat → Prop) (cB cI cJ cD : ClassId) (al l1 l2 l3 l4 l5 : Nat) (A : Nat → Int32) (tp : Nat → Int32) (dv : Nat → Option vDes) (cs : Nat → Int32) (cv : Nat → Option vDes) (jv : Option vJoint) (bo : Option (Nat → Int32)) (hg : Option (Nat → Int64)) (lw : Option (Nat → Int64)) (sb : vSB) (n : Nat) (x1 : Int32) (x2 : Int32) (x3 : Int32) (x4 : Int32) (x5 : Int32) (x6 : Int32) (x : Int64) (h : w_span n jv x1 x2 x3 x4 x5 x6 = some x) {hi hm : zHp} {nx : Nat} {Q : Option Value → zHp → zHp → Nat → Prop} (hW : lW X cB cI cJ cD al l1 l2 l3 l4 l5 A tp dv cs cv jv bo hg lw sb hi hm) (hQ0 : ∀ (hi' hm' : zHp) (nx' : Nat), zX hi hi' → lW X cB cI cJ cD al l1 l2 l3 l4 l5 A tp dv cs cv jv bo hg lw sb hi' hm' → lFr X hm hm' → Q (some (.long x)) hi' hm' nx') : zM s0 D (zty cB cI cJ cD) yX11_span cX11_span 11 (some .long) 6 143 0 0 [.ref al, .int x1, .int x2, .int x3, .int x4, .int x5, .int x6] hi hm nx Q := by
  have hQ : ∀ r : Int64, x = r → ∀ (hi' hm' : zHp) (nx' : Nat), zX hi hi' → lW X cB cI cJ cD al l1 l2 l3 l4 l5 A tp dv cs cv jv bo hg lw sb hi' hm' → lFr X hm hm' → Q (some (.long r)) hi' hm' nx' := fun r hr => by subst hr; exact hQ0
  clear hQ0
  have hXX : zX hi hi := zX.rf
  have hFr : lFr X hm hm := lFr.rf
  refine zM_of (by decide +kernel) (Nat.le_of_ble_eq_true rfl) ?_
  unfold w_span at h
  refine zV_eq (lo2 := [(0, .ref al), (1, .int x1), (2, .int x2), (3, .int x3), (4, .int x4), (5, .int x5), (6, .int x6)]) rfl rfl rfl rfl ?_
  refine zV_blk (pc' := 1) (lo' := [(0, .ref al), (1, .int x1), (2, .int x2), (3, .int x3), (4, .int x4), (5, .int x5), (6, .int x6)]) (st' := [.ref al]) [.aload_n 0] (by decide +kernel) rfl ?_
  refine l_getJ (idx := 49) hW (zT_mem 166 (by decide +kernel) rfl) (by decide +kernel) (fun hx => ?_) (fun b1 z2 hx ho3 => ?_)
  · replace h := zOm_n hx h
    refine zV_ifnonnull (r := none) (tgt := 11) (off := 7) (by decide +kernel) (by decide) (fun _ q => by cases q) (fun _ => ?_)
    refine zV_ldc2 (idx := 164) (v := (-1000000000000000)) (zT_mem 681 (by decide +kernel) rfl) (by decide +kernel) ?_
    obtain rfl := Option.some.inj h
    exact zV_lret rfl (by decide +kernel) (hQ _ rfl _ _ _ hXX hW hFr)
  · replace h := zOm_s hx h
    refine zV_ifnonnull (r := some b1) (tgt := 11) (off := 7) (by decide +kernel) (by decide) (fun _ _ => ?_) (fun q => by cases q)
    refine zV_blk (pc' := 12) (lo' := [(0, .ref al), (1, .int x1), (2, .int x2), (3, .int x3), (4, .int x4), (5, .int x5), (6, .int x6)]) (st' := [.ref al]) [.aload_n 0] (by decide +kernel) rfl ?_
    refine l_getJ (idx := 49) hW (zT_mem 166 (by decide +kernel) rfl) (by decide +kernel) (fun hx => ?_) (fun b4 z5 hx ho6 => ?_)
    · replace h := zOm_n hx h
      refine zV_blk (pc' := 18) (lo' := [(0, .ref al), (1, .int x1), (2, .int x2), (3, .int x3), (4, .int x4), (5, .int x5), (6, .int x6)]) (st' := [.int x3, .int x2, .int x1, .null]) [.iload_n 1, .iload_n 2, .iload_n 3] (by decide +kernel) rfl ?_
      cases h
    · replace h := zOm_s hx h
      refine zV_blk (pc' := 18) (lo' := [(0, .ref al), (1, .int x1), (2, .int x2), (3, .int x3), (4, .int x4), (5, .int x5), (6, .int x6)]) (st' := [.int x3, .int x2, .int x1, .ref b4]) [.iload_n 1, .iload_n 2, .iload_n 3] (by decide +kernel) rfl ?_
      obtain ⟨v7, hv7, h⟩ := zbind h
      obtain ⟨b8, b9, hc10, hc11, hc12⟩ := ho6
      refine zV_roV (idx := 369) (rest := []) (fs := [.ref b8, .ref b9, .long z5.2.2.1, .long z5.2.2.2]) (ci := 4) (fun Q2 hQ2 => ck_jfirstDay s0 D cB cI cJ cD n z5 x1 x2 x3 b4 v7 hv7 ⟨b8, b9, hc10, hc11, hc12⟩ hQ2) oX4_firstDay (Or.inl hc10) rfl (zT_mem 1346 (by decide +kernel) rfl) (zT_mem 1347 (by decide +kernel) rfl) (zT_mem 1348 (by decide +kernel) rfl) rfl rfl (Nat.le_of_ble_eq_true rfl) ⟨by decide, by decide⟩ (by decide +kernel) ?_
      refine zV_eq (st2 := [.long v7]) rfl rfl rfl rfl ?_
      refine zV_blk (pc' := 24) (lo' := [(7, .long v7), (0, .ref al), (1, .int x1), (2, .int x2), (3, .int x3), (4, .int x4), (5, .int x5), (6, .int x6)]) (st' := [.ref al]) [.lstore 7, .aload_n 0] (by decide +kernel) rfl ?_
      refine l_getJ (idx := 49) hW (zT_mem 166 (by decide +kernel) rfl) (by decide +kernel) (fun hx => ?_) (fun b13 z14 hx ho15 => ?_)
      · replace h := zOm_n hx h
        refine zV_blk (pc' := 33) (lo' := [(7, .long v7), (0, .ref al), (1, .int x1), (2, .int x2), (3, .int x3), (4, .int x4), (5, .int x5), (6, .int x6)]) (st' := [.int x6, .int x5, .int x4, .null]) [.iload 4, .iload 5, .iload 6] (by decide +kernel) rfl ?_
        cases h
      · replace h := zOm_s hx h
        refine zV_blk (pc' := 33) (lo' := [(7, .long v7), (0, .ref al), (1, .int x1), (2, .int x2), (3, .int x3), (4, .int x4), (5, .int x5), (6, .int x6)]) (st' := [.int x6, .int x5, .int x4, .ref b13]) [.iload 4, .iload 5, .iload 6] (by decide +kernel) rfl ?_
        obtain ⟨v16, hv16, h⟩ := zbind h
        obtain ⟨b17, b18, hc19, hc20, hc21⟩ := ho15
        refine zV_roV (idx := 369) (rest := []) (fs := [.ref b17, .ref b18, .long z14.2.2.1, .long z14.2.2.2]) (ci := 4) (fun Q2 hQ2 => ck_jfirstDay s0 D cB cI cJ cD n z14 x4 x5 x6 b13 v16 hv16 ⟨b17, b18, hc19, hc20, hc21⟩ hQ2) oX4_firstDay (Or.inl hc19) rfl (zT_mem 1346 (by decide +kernel) rfl) (zT_mem 1347 (by decide +kernel) rfl) (zT_mem 1348 (by decide +kernel) rfl) rfl rfl (Nat.le_of_ble_eq_true rfl) ⟨by decide, by decide⟩ (by decide +kernel) ?_
        refine zV_eq (st2 := [.long v16]) rfl rfl rfl rfl ?_
        refine zV_blk (pc' := 40) (lo' := [(9, .long v16), (7, .long v7), (0, .ref al), (1, .int x1), (2, .int x2), (3, .int x3), (4, .int x4), (5, .int x5), (6, .int x6)]) (st' := [.long v7]) [.lstore 9, .lload 7] (by decide +kernel) rfl ?_
        refine zV_ldc2 (idx := 164) (v := (-1000000000000000)) (zT_mem 681 (by decide +kernel) rfl) (by decide +kernel) ?_
        refine zV_blk (pc' := 44) (lo' := [(9, .long v16), (7, .long v7), (0, .ref al), (1, .int x1), (2, .int x2), (3, .int x3), (4, .int x4), (5, .int x5), (6, .int x6)]) (st' := [.int (lg_cmp v7 (-1000000000000000))]) [.lcmp] (by decide +kernel) rfl ?_
        refine zV_lcmp_eq (tgt := 56) (off := 12) (by decide +kernel) (by decide) (fun q => ?_) (fun q => ?_)
        · replace h := zif_pos q h
          clear q
          refine zV_pick (lo2 := []) [] rfl ?_
          exact cw_span_56 s0 D X cB cI cJ cD al l1 l2 l3 l4 l5 A tp dv cs cv jv bo hg lw sb n    hW  hXX hFr h hQ
        · replace h := zif_neg q h
          clear q
          refine zV_blk (pc' := 49) (lo' := [(9, .long v16), (7, .long v7), (0, .ref al), (1, .int x1), (2, .int x2), (3, .int x3), (4, .int x4), (5, .int x5), (6, .int x6)]) (st' := [.long v16]) [.lload 9] (by decide +kernel) rfl ?_
          refine zV_ldc2 (idx := 164) (v := (-1000000000000000)) (zT_mem 681 (by decide +kernel) rfl) (by decide +kernel) ?_
          refine zV_blk (pc' := 53) (lo' := [(9, .long v16), (7, .long v7), (0, .ref al), (1, .int x1), (2, .int x2), (3, .int x3), (4, .int x4), (5, .int x5), (6, .int x6)]) (st' := [.int (lg_cmp v16 (-1000000000000000))]) [.lcmp] (by decide +kernel) rfl ?_
          refine zV_lcmp_ne (tgt := 62) (off := 9) (by decide +kernel) (by decide) (fun q => ?_) (fun q => ?_)
          · replace h := zif_neg q h
            clear q
            refine zV_blk (pc' := 67) (lo' := [(9, .long v16), (7, .long v7), (0, .ref al), (1, .int x1), (2, .int x2), (3, .int x3), (4, .int x4), (5, .int x5), (6, .int x6)]) (st' := [.long (v16 - v7)]) [.lload 9, .lload 7, .lsub] (by decide +kernel) rfl ?_
            obtain rfl := Option.some.inj h
            exact zV_lret rfl (by decide +kernel) (hQ _ rfl _ _ _ hXX hW hFr)
          · replace h := zif_pos q h
            clear q
            refine zV_pick (lo2 := []) [] rfl ?_
            exact cw_span_56 s0 D X cB cI cJ cD al l1 l2 l3 l4 l5 A tp dv cs cv jv bo hg lw sb n    hW  hXX hFr h hQ
