def mtaken (n : Nat) (F : Nat → Int32) (w : Nat → Int32) (x1 : Int32) (x2 : Int64) (x4 : Int32) (x5 : Int32) (x6 : Int32) : Option (Int64 × (Nat → Int32)) := (misThere w x1).bind (fun v1 => (if v1 = true then (misThere w x4).bind (fun v2 => (if v2 = true then (mbank x1).bind (fun v3 => (misDay n w v3 x2).bind (fun v4 => (if v4 = true then (misIn (x5 : Int32).toInt64 (-1000000) 1000000).bind (fun v5 => (if v5 = true then (misIn (x6 : Int32).toInt64 0 4).bind (fun v6 => (if v6 = true then (mbank x4).bind (fun v7 => (misDay n w v7 (x2 + (x5 : Int32).toInt64)).bind (fun v8 => (if v8 = true then (mbank x4).bind (fun v9 => (mdateOf n w v9 (x2 + (x5 : Int32).toInt64) x6).bind (fun v10 => some (v10, (upd F 0 0)))) else some ((-1000000000000000), (upd F 0 0))))) else some ((-1000000000000000), (upd F 0 0)))) else some ((-1000000000000000), (upd F 0 0)))) else some ((-1000000000000000), (upd F 0 0))))) else some ((-1000000000000000), (upd F 0 0)))) else some ((-1000000000000000), (upd F 0 0))))
theorem oX12_taken : zO yX12_taken cX12_taken 7 (some .long) 5 := ⟨zT_mem 1887 (by decide +kernel) rfl, zT_mem 94 (by decide +kernel) rfl, by decide +kernel, by decide +kernel, by decide +kernel⟩
set_option maxHeartbeats 4000000 in
set_option maxRecDepth 100000 in
theorem cmtaken (s0 : State) (D : va_G) (cB cI cJ cD : ClassId) (am a1 a2 a3 : Nat) (F : Nat → Int32) (G : Nat → Int64) (tp w oc : Nat → Int32) (n : Nat) (x1 : Int32) (x2 : Int64) (x4 : Int32) (x5 : Int32) (x6 : Int32) (x : Int64 × (Nat → Int32)) (h : mtaken n F w x1 x2 x4 x5 x6 = some x) : mC s0 D cB cI cJ cD am a1 a2 a3 yX12_taken cX12_taken 7 (some .long) 6 156 [.int x1, .long x2, .int x4, .int x5, .int x6] F G tp w oc (some (.long x.1)) x.2 G tp w oc := by
  intro hi hm nx Q hW hQ0
  have hQ : ∀ r : Int64 × (Nat → Int32), x = r → ∀ hm', mW cB cI am a1 a2 a3 r.2 G tp w oc hm' → mFr am a1 a2 a3 hm hm' → Q (some (.long r.1)) hi hm' nx := fun r hr => by subst hr; exact hQ0
  have hFr : mFr am a1 a2 a3 hm hm := mFr.rf
  clear hQ0
  refine zM_of (by decide +kernel) (Nat.le_of_ble_eq_true rfl) ?_
  unfold mtaken at h
  refine zV_eq (lo2 := [(0, .ref am), (1, .int x1), (2, .long x2), (4, .int x4), (5, .int x5), (6, .int x6)]) rfl rfl rfl rfl ?_
  refine zV_blk (pc' := 2) (lo' := [(0, .ref am), (1, .int x1), (2, .long x2), (4, .int x4), (5, .int x5), (6, .int x6)]) (st' := [.int 0, .ref am]) [.aload_n 0, .iconst 0] (by decide +kernel) rfl ?_
  refine m_put (idx := 25) (k := 0) (v := .int 0) (F' := (upd F 0 0)) (G' := G) hW m_in12 (by decide) (zT_mem 1440 (by decide +kernel) rfl) rfl rfl rfl rfl (by decide +kernel) (fun hm hW hFr2 => ?_)
  replace hFr := hFr.tr hFr2; clear hFr2
  refine zV_blk (pc' := 7) (lo' := [(0, .ref am), (1, .int x1), (2, .long x2), (4, .int x4), (5, .int x5), (6, .int x6)]) (st' := [.int x1, .ref am]) [.aload_n 0, .iload_n 1] (by decide +kernel) rfl ?_
  obtain ⟨v1, hv1, h⟩ := zbind h
  refine m_cR (idx := 273) (rest := []) hW (cmisThere s0 D cB cI cJ cD am a1 a2 a3 (upd F 0 0) G tp w oc x1 v1 hv1) oX12_isThere rfl (zT_mem 1686 (by decide +kernel) rfl) (zT_mem 1688 (by decide +kernel) rfl) (zT_mem 49 (by decide +kernel) rfl) rfl rfl (Nat.le_of_ble_eq_true rfl) ⟨by decide, by decide⟩ (by decide +kernel) ?_
  refine zV_eq (st2 := [.int (zb v1)]) rfl rfl rfl rfl ?_
  refine zV_bif_eq (tgt := 62) (off := 52) (by decide +kernel) (by decide) (fun q => ?_) (fun q => ?_)
  · replace h := zif_neg q h
    clear q
    refine zV_ldc2 (idx := 40) (v := (-1000000000000000)) (zT_mem 1728 (by decide +kernel) rfl) (by decide +kernel) ?_
    obtain rfl := Option.some.inj h
    exact zV_lret rfl (by decide +kernel) (hQ _ rfl hm hW hFr)
  · replace h := zif_pos q h
    clear q
    refine zV_blk (pc' := 16) (lo' := [(0, .ref am), (1, .int x1), (2, .long x2), (4, .int x4), (5, .int x5), (6, .int x6)]) (st' := [.int x4, .ref am]) [.aload_n 0, .iload 4] (by decide +kernel) rfl ?_
    obtain ⟨v2, hv2, h⟩ := zbind h
    refine m_cR (idx := 273) (rest := []) hW (cmisThere s0 D cB cI cJ cD am a1 a2 a3 (upd F 0 0) G tp w oc x4 v2 hv2) oX12_isThere rfl (zT_mem 1686 (by decide +kernel) rfl) (zT_mem 1688 (by decide +kernel) rfl) (zT_mem 49 (by decide +kernel) rfl) rfl rfl (Nat.le_of_ble_eq_true rfl) ⟨by decide, by decide⟩ (by decide +kernel) ?_
    refine zV_eq (st2 := [.int (zb v2)]) rfl rfl rfl rfl ?_
    refine zV_bif_eq (tgt := 62) (off := 43) (by decide +kernel) (by decide) (fun q => ?_) (fun q => ?_)
    · replace h := zif_neg q h
      clear q
      refine zV_ldc2 (idx := 40) (v := (-1000000000000000)) (zT_mem 1728 (by decide +kernel) rfl) (by decide +kernel) ?_
      obtain rfl := Option.some.inj h
      exact zV_lret rfl (by decide +kernel) (hQ _ rfl hm hW hFr)
    · replace h := zif_pos q h
      clear q
      refine zV_blk (pc' := 24) (lo' := [(0, .ref am), (1, .int x1), (2, .long x2), (4, .int x4), (5, .int x5), (6, .int x6)]) (st' := [.int x1, .ref am]) [.aload_n 0, .iload_n 1] (by decide +kernel) rfl ?_
      obtain ⟨v3, hv3, h⟩ := zbind h
      refine zV_sC (idx := 118) (rest := [.ref am]) (cmbank s0 D cB cI cJ cD x1 v3 hv3) oX12_bank (zT_mem 1671 (by decide +kernel) rfl) (zT_mem 1672 (by decide +kernel) rfl) rfl rfl (Nat.le_of_ble_eq_true rfl) ⟨by decide, by decide⟩ (by decide +kernel) ?_
      refine zV_eq (st2 := [.int v3, .ref am]) rfl rfl rfl rfl ?_
      refine zV_blk (pc' := 28) (lo' := [(0, .ref am), (1, .int x1), (2, .long x2), (4, .int x4), (5, .int x5), (6, .int x6)]) (st' := [.long x2, .int v3, .ref am]) [.lload_n 2] (by decide +kernel) rfl ?_
      obtain ⟨v4, hv4, h⟩ := zbind h
      refine m_cR (idx := 328) (rest := []) hW (cmisDay s0 D cB cI cJ cD am a1 a2 a3 (upd F 0 0) G tp w oc n v3 x2 v4 hv4) oX12_isDay rfl (zT_mem 1845 (by decide +kernel) rfl) (zT_mem 1847 (by decide +kernel) rfl) (zT_mem 66 (by decide +kernel) rfl) rfl rfl (Nat.le_of_ble_eq_true rfl) ⟨by decide, by decide⟩ (by decide +kernel) ?_
      refine zV_eq (st2 := [.int (zb v4)]) rfl rfl rfl rfl ?_
      refine zV_bif_eq (tgt := 62) (off := 31) (by decide +kernel) (by decide) (fun q => ?_) (fun q => ?_)
      · replace h := zif_neg q h
        clear q
        refine zV_ldc2 (idx := 40) (v := (-1000000000000000)) (zT_mem 1728 (by decide +kernel) rfl) (by decide +kernel) ?_
        obtain rfl := Option.some.inj h
        exact zV_lret rfl (by decide +kernel) (hQ _ rfl hm hW hFr)
      · replace h := zif_pos q h
        clear q
        refine zV_blk (pc' := 37) (lo' := [(0, .ref am), (1, .int x1), (2, .long x2), (4, .int x4), (5, .int x5), (6, .int x6)]) (st' := [.long (x5 : Int32).toInt64]) [.iload 5, .i2l] (by decide +kernel) rfl ?_
        refine zV_ldc2 (idx := 345) (v := (-1000000)) (zT_mem 1888 (by decide +kernel) rfl) (by decide +kernel) ?_
        refine zV_ldc2 (idx := 292) (v := 1000000) (zT_mem 1763 (by decide +kernel) rfl) (by decide +kernel) ?_
        obtain ⟨v5, hv5, h⟩ := zbind h
        refine zV_sC (idx := 36) (rest := []) (cmisIn s0 D cB cI cJ cD (x5 : Int32).toInt64 (-1000000) 1000000 v5 hv5) oX12_isIn (zT_mem 1531 (by decide +kernel) rfl) (zT_mem 1532 (by decide +kernel) rfl) rfl rfl (Nat.le_of_ble_eq_true rfl) ⟨by decide, by decide⟩ (by decide +kernel) ?_
        refine zV_eq (st2 := [.int (zb v5)]) rfl rfl rfl rfl ?_
        refine zV_bif_eq (tgt := 62) (off := 16) (by decide +kernel) (by decide) (fun q => ?_) (fun q => ?_)
        · replace h := zif_neg q h
          clear q
          refine zV_ldc2 (idx := 40) (v := (-1000000000000000)) (zT_mem 1728 (by decide +kernel) rfl) (by decide +kernel) ?_
          obtain rfl := Option.some.inj h
          exact zV_lret rfl (by decide +kernel) (hQ _ rfl hm hW hFr)
        · replace h := zif_pos q h
          clear q
          refine zV_blk (pc' := 53) (lo' := [(0, .ref am), (1, .int x1), (2, .long x2), (4, .int x4), (5, .int x5), (6, .int x6)]) (st' := [.long 0, .long (x6 : Int32).toInt64]) [.iload 6, .i2l, .lconst 0] (by decide +kernel) rfl ?_
          refine zV_ldc2 (idx := 331) (v := 4) (zT_mem 1850 (by decide +kernel) rfl) (by decide +kernel) ?_
          obtain ⟨v6, hv6, h⟩ := zbind h
          refine zV_sC (idx := 36) (rest := []) (cmisIn s0 D cB cI cJ cD (x6 : Int32).toInt64 0 4 v6 hv6) oX12_isIn (zT_mem 1531 (by decide +kernel) rfl) (zT_mem 1532 (by decide +kernel) rfl) rfl rfl (Nat.le_of_ble_eq_true rfl) ⟨by decide, by decide⟩ (by decide +kernel) ?_
          refine zV_eq (st2 := [.int (zb v6)]) rfl rfl rfl rfl ?_
          refine zV_bif_ne (tgt := 66) (off := 7) (by decide +kernel) (by decide) (fun q => ?_) (fun q => ?_)
          · replace h := zif_pos q h
            clear q
            refine zV_blk (pc' := 69) (lo' := [(0, .ref am), (1, .int x1), (2, .long x2), (4, .int x4), (5, .int x5), (6, .int x6)]) (st' := [.int x4, .ref am]) [.aload_n 0, .iload 4] (by decide +kernel) rfl ?_
            obtain ⟨v7, hv7, h⟩ := zbind h
            refine zV_sC (idx := 118) (rest := [.ref am]) (cmbank s0 D cB cI cJ cD x4 v7 hv7) oX12_bank (zT_mem 1671 (by decide +kernel) rfl) (zT_mem 1672 (by decide +kernel) rfl) rfl rfl (Nat.le_of_ble_eq_true rfl) ⟨by decide, by decide⟩ (by decide +kernel) ?_
            refine zV_eq (st2 := [.int v7, .ref am]) rfl rfl rfl rfl ?_
            refine zV_blk (pc' := 77) (lo' := [(0, .ref am), (1, .int x1), (2, .long x2), (4, .int x4), (5, .int x5), (6, .int x6)]) (st' := [.long (x2 + (x5 : Int32).toInt64), .int v7, .ref am]) [.lload_n 2, .iload 5, .i2l, .ladd] (by decide +kernel) rfl ?_
            obtain ⟨v8, hv8, h⟩ := zbind h
            refine m_cR (idx := 328) (rest := []) hW (cmisDay s0 D cB cI cJ cD am a1 a2 a3 (upd F 0 0) G tp w oc n v7 (x2 + (x5 : Int32).toInt64) v8 hv8) oX12_isDay rfl (zT_mem 1845 (by decide +kernel) rfl) (zT_mem 1847 (by decide +kernel) rfl) (zT_mem 66 (by decide +kernel) rfl) rfl rfl (Nat.le_of_ble_eq_true rfl) ⟨by decide, by decide⟩ (by decide +kernel) ?_
            refine zV_eq (st2 := [.int (zb v8)]) rfl rfl rfl rfl ?_
            refine zV_bif_eq (tgt := 102) (off := 22) (by decide +kernel) (by decide) (fun q => ?_) (fun q => ?_)
            · replace h := zif_neg q h
              clear q
              refine zV_ldc2 (idx := 40) (v := (-1000000000000000)) (zT_mem 1728 (by decide +kernel) rfl) (by decide +kernel) ?_
              obtain rfl := Option.some.inj h
              exact zV_lret rfl (by decide +kernel) (hQ _ rfl hm hW hFr)
            · replace h := zif_pos q h
              clear q
              refine zV_blk (pc' := 86) (lo' := [(0, .ref am), (1, .int x1), (2, .long x2), (4, .int x4), (5, .int x5), (6, .int x6)]) (st' := [.int x4, .ref am]) [.aload_n 0, .iload 4] (by decide +kernel) rfl ?_
              obtain ⟨v9, hv9, h⟩ := zbind h
              refine zV_sC (idx := 118) (rest := [.ref am]) (cmbank s0 D cB cI cJ cD x4 v9 hv9) oX12_bank (zT_mem 1671 (by decide +kernel) rfl) (zT_mem 1672 (by decide +kernel) rfl) rfl rfl (Nat.le_of_ble_eq_true rfl) ⟨by decide, by decide⟩ (by decide +kernel) ?_
              refine zV_eq (st2 := [.int v9, .ref am]) rfl rfl rfl rfl ?_
              refine zV_blk (pc' := 96) (lo' := [(0, .ref am), (1, .int x1), (2, .long x2), (4, .int x4), (5, .int x5), (6, .int x6)]) (st' := [.int x6, .long (x2 + (x5 : Int32).toInt64), .int v9, .ref am]) [.lload_n 2, .iload 5, .i2l, .ladd, .iload 6] (by decide +kernel) rfl ?_
              obtain ⟨v10, hv10, h⟩ := zbind h
              refine m_cR (idx := 333) (rest := []) hW (cmdateOf s0 D cB cI cJ cD am a1 a2 a3 (upd F 0 0) G tp w oc n v9 (x2 + (x5 : Int32).toInt64) x6 v10 hv10) oX12_dateOf rfl (zT_mem 1851 (by decide +kernel) rfl) (zT_mem 1853 (by decide +kernel) rfl) (zT_mem 67 (by decide +kernel) rfl) rfl rfl (Nat.le_of_ble_eq_true rfl) ⟨by decide, by decide⟩ (by decide +kernel) ?_
              refine zV_eq (st2 := [.long v10]) rfl rfl rfl rfl ?_
              refine zV_goto (tgt := 105) (off := 6) (by decide +kernel) (by decide) ?_
              obtain rfl := Option.some.inj h
              exact zV_lret rfl (by decide +kernel) (hQ _ rfl hm hW hFr)
          · replace h := zif_neg q h
            clear q
            refine zV_ldc2 (idx := 40) (v := (-1000000000000000)) (zT_mem 1728 (by decide +kernel) rfl) (by decide +kernel) ?_
            obtain rfl := Option.some.inj h
            exact zV_lret rfl (by decide +kernel) (hQ _ rfl hm hW hFr)

def mbelowOf (n : Nat) (w : Nat → Int32) (x1 : Int32) : Option (Int64) := zck (zin ((x1 + 14)) 35802) (zck (zin ((x1 + 14)) 35802) (zck (zin ((x1 + 16)) 35802) ((mgcd n ((w ((x1 + 14) : Int32).toNatClampNeg) : Int32).toInt64 ((w ((x1 + 16) : Int32).toNatClampNeg) : Int32).toInt64).bind (fun v1 => zck (decide (¬ (v1 : Int64) = 0)) (zck (zin ((x1 + 16)) 35802) (some ((((w ((x1 + 14) : Int32).toNatClampNeg) : Int32).toInt64 / v1) * ((w ((x1 + 16) : Int32).toNatClampNeg) : Int32).toInt64)))))))
theorem oX12_belowOf : zO yX12_belowOf cX12_belowOf 2 (some .long) 1 := ⟨zT_mem 1900 (by decide +kernel) rfl, zT_mem 94 (by decide +kernel) rfl, by decide +kernel, by decide +kernel, by decide +kernel⟩
set_option maxHeartbeats 4000000 in
set_option maxRecDepth 100000 in
theorem cmbelowOf (s0 : State) (D : va_G) (cB cI cJ cD : ClassId) (am a1 a2 a3 : Nat) (F : Nat → Int32) (G : Nat → Int64) (tp w oc : Nat → Int32) (n : Nat) (x1 : Int32) (x : Int64) (h : mbelowOf n w x1 = some x) : mR s0 D cB cI cJ cD am a1 a2 a3 yX12_belowOf cX12_belowOf 2 (some .long) 2 50 [.int x1] F G tp w oc (some (.long x)) := by
  intro hi hm nx Q hW hQ0
  have hQ : ∀ r : Int64, x = r → Q (some (.long r)) hi hm nx := fun r hr => by subst hr; exact hQ0
  refine zM_of (by decide +kernel) (Nat.le_of_ble_eq_true rfl) ?_
  unfold mbelowOf at h
  refine zV_eq (lo2 := [(0, .ref am), (1, .int x1)]) rfl rfl rfl rfl ?_
  refine zV_blk (pc' := 1) (lo' := [(0, .ref am), (1, .int x1)]) (st' := [.ref am]) [.aload_n 0] (by decide +kernel) rfl ?_
  refine m_get (idx := 18) (k := 12) (v := .ref a2) hW m_in12 (by decide) (zT_mem 1452 (by decide +kernel) rfl) rfl (by decide +kernel) ?_
  refine zV_blk (pc' := 8) (lo' := [(0, .ref am), (1, .int x1)]) (st' := [.int (x1 + 14), .ref a2]) [.iload_n 1, .bipush 14, .iadd] (by decide +kernel) rfl ?_
  obtain ⟨hz, h⟩ := zck_some h
  refine m_wld hW hz (by decide +kernel) ?_
  refine zV_blk (pc' := 11) (lo' := [(0, .ref am), (1, .int x1)]) (st' := [.ref am, .long ((w ((x1 + 14) : Int32).toNatClampNeg) : Int32).toInt64]) [.i2l, .aload_n 0] (by decide +kernel) rfl ?_
  refine m_get (idx := 18) (k := 12) (v := .ref a2) hW m_in12 (by decide) (zT_mem 1452 (by decide +kernel) rfl) rfl (by decide +kernel) ?_
  refine zV_blk (pc' := 18) (lo' := [(0, .ref am), (1, .int x1)]) (st' := [.int (x1 + 14), .ref a2, .long ((w ((x1 + 14) : Int32).toNatClampNeg) : Int32).toInt64]) [.iload_n 1, .bipush 14, .iadd] (by decide +kernel) rfl ?_
  obtain ⟨hz, h⟩ := zck_some h
  refine m_wld hW hz (by decide +kernel) ?_
  refine zV_blk (pc' := 21) (lo' := [(0, .ref am), (1, .int x1)]) (st' := [.ref am, .long ((w ((x1 + 14) : Int32).toNatClampNeg) : Int32).toInt64, .long ((w ((x1 + 14) : Int32).toNatClampNeg) : Int32).toInt64]) [.i2l, .aload_n 0] (by decide +kernel) rfl ?_
  refine m_get (idx := 18) (k := 12) (v := .ref a2) hW m_in12 (by decide) (zT_mem 1452 (by decide +kernel) rfl) rfl (by decide +kernel) ?_
  refine zV_blk (pc' := 28) (lo' := [(0, .ref am), (1, .int x1)]) (st' := [.int (x1 + 16), .ref a2, .long ((w ((x1 + 14) : Int32).toNatClampNeg) : Int32).toInt64, .long ((w ((x1 + 14) : Int32).toNatClampNeg) : Int32).toInt64]) [.iload_n 1, .bipush 16, .iadd] (by decide +kernel) rfl ?_
  obtain ⟨hz, h⟩ := zck_some h
  refine m_wld hW hz (by decide +kernel) ?_
  refine zV_blk (pc' := 30) (lo' := [(0, .ref am), (1, .int x1)]) (st' := [.long ((w ((x1 + 16) : Int32).toNatClampNeg) : Int32).toInt64, .long ((w ((x1 + 14) : Int32).toNatClampNeg) : Int32).toInt64, .long ((w ((x1 + 14) : Int32).toNatClampNeg) : Int32).toInt64]) [.i2l] (by decide +kernel) rfl ?_
  obtain ⟨v1, hv1, h⟩ := zbind h
  refine zV_sC (idx := 42) (rest := [.long ((w ((x1 + 14) : Int32).toNatClampNeg) : Int32).toInt64]) (cmgcd s0 D cB cI cJ cD n ((w ((x1 + 14) : Int32).toNatClampNeg) : Int32).toInt64 ((w ((x1 + 16) : Int32).toNatClampNeg) : Int32).toInt64 v1 hv1) oX12_gcd (zT_mem 1736 (by decide +kernel) rfl) (zT_mem 1737 (by decide +kernel) rfl) rfl rfl (Nat.le_of_ble_eq_true rfl) ⟨by decide, by decide⟩ (by decide +kernel) ?_
  refine zV_eq (st2 := [.long v1, .long ((w ((x1 + 14) : Int32).toNatClampNeg) : Int32).toInt64]) rfl rfl rfl rfl ?_
  obtain ⟨hz, h⟩ := zck_some h
  refine zV_ldiv (by decide +kernel) (of_decide_eq_true hz) ?_
  refine zV_blk (pc' := 35) (lo' := [(0, .ref am), (1, .int x1)]) (st' := [.ref am, .long (((w ((x1 + 14) : Int32).toNatClampNeg) : Int32).toInt64 / v1)]) [.aload_n 0] (by decide +kernel) rfl ?_
  refine m_get (idx := 18) (k := 12) (v := .ref a2) hW m_in12 (by decide) (zT_mem 1452 (by decide +kernel) rfl) rfl (by decide +kernel) ?_
  refine zV_blk (pc' := 42) (lo' := [(0, .ref am), (1, .int x1)]) (st' := [.int (x1 + 16), .ref a2, .long (((w ((x1 + 14) : Int32).toNatClampNeg) : Int32).toInt64 / v1)]) [.iload_n 1, .bipush 16, .iadd] (by decide +kernel) rfl ?_
  obtain ⟨hz, h⟩ := zck_some h
  refine m_wld hW hz (by decide +kernel) ?_
  refine zV_blk (pc' := 45) (lo' := [(0, .ref am), (1, .int x1)]) (st' := [.long ((((w ((x1 + 14) : Int32).toNatClampNeg) : Int32).toInt64 / v1) * ((w ((x1 + 16) : Int32).toNatClampNeg) : Int32).toInt64)]) [.i2l, .lmul] (by decide +kernel) rfl ?_
  obtain rfl := Option.some.inj h
  exact zV_lret rfl (by decide +kernel) (hQ _ rfl)

def mdawnOf (n : Nat) (w : Nat → Int32) (x1 : Int32) (x2 : Int64) : Option (Int64) := (mbelowOf n w x1).bind (fun v1 => (mtrueAbove w x1).bind (fun v2 => zck (zin ((x1 + 14)) 35802) (zck (decide (¬ (((w ((x1 + 14) : Int32).toNatClampNeg) : Int32).toInt64 : Int64) = 0)) (zck (zin ((x1 + 15)) 35802) (zck (zin ((x1 + 16)) 35802) (zck (decide (¬ (((w ((x1 + 16) : Int32).toNatClampNeg) : Int32).toInt64 : Int64) = 0)) (some (((x2 * v2) * (v1 / ((w ((x1 + 14) : Int32).toNatClampNeg) : Int32).toInt64)) + (((w ((x1 + 15) : Int32).toNatClampNeg) : Int32).toInt64 * (v1 / ((w ((x1 + 16) : Int32).toNatClampNeg) : Int32).toInt64))))))))))
theorem oX12_dawnOf : zO yX12_dawnOf cX12_dawnOf 6 (some .long) 2 := ⟨zT_mem 1904 (by decide +kernel) rfl, zT_mem 94 (by decide +kernel) rfl, by decide +kernel, by decide +kernel, by decide +kernel⟩
set_option maxHeartbeats 4000000 in
set_option maxRecDepth 100000 in
theorem cmdawnOf (s0 : State) (D : va_G) (cB cI cJ cD : ClassId) (am a1 a2 a3 : Nat) (F : Nat → Int32) (G : Nat → Int64) (tp w oc : Nat → Int32) (n : Nat) (x1 : Int32) (x2 : Int64) (x : Int64) (h : mdawnOf n w x1 x2 = some x) : mR s0 D cB cI cJ cD am a1 a2 a3 yX12_dawnOf cX12_dawnOf 6 (some .long) 3 71 [.int x1, .long x2] F G tp w oc (some (.long x)) := by
  intro hi hm nx Q hW hQ0
  have hQ : ∀ r : Int64, x = r → Q (some (.long r)) hi hm nx := fun r hr => by subst hr; exact hQ0
  refine zM_of (by decide +kernel) (Nat.le_of_ble_eq_true rfl) ?_
  unfold mdawnOf at h
  refine zV_eq (lo2 := [(0, .ref am), (1, .int x1), (2, .long x2)]) rfl rfl rfl rfl ?_
  refine zV_blk (pc' := 2) (lo' := [(0, .ref am), (1, .int x1), (2, .long x2)]) (st' := [.int x1, .ref am]) [.aload_n 0, .iload_n 1] (by decide +kernel) rfl ?_
  obtain ⟨v1, hv1, h⟩ := zbind h
  refine m_cR (idx := 347) (rest := []) hW (cmbelowOf s0 D cB cI cJ cD am a1 a2 a3 F G tp w oc n x1 v1 hv1) oX12_belowOf rfl (zT_mem 1897 (by decide +kernel) rfl) (zT_mem 1899 (by decide +kernel) rfl) (zT_mem 74 (by decide +kernel) rfl) rfl rfl (Nat.le_of_ble_eq_true rfl) ⟨by decide, by decide⟩ (by decide +kernel) ?_
  refine zV_eq (st2 := [.long v1]) rfl rfl rfl rfl ?_
  refine zV_blk (pc' := 10) (lo' := [(4, .long v1), (0, .ref am), (1, .int x1), (2, .long x2)]) (st' := [.int x1, .ref am, .long x2]) [.lstore 4, .lload_n 2, .aload_n 0, .iload_n 1] (by decide +kernel) rfl ?_
  obtain ⟨v2, hv2, h⟩ := zbind h
  refine m_cR (idx := 282) (rest := [.long x2]) hW (cmtrueAbove s0 D cB cI cJ cD am a1 a2 a3 F G tp w oc x1 v2 hv2) oX12_trueAbove rfl (zT_mem 1729 (by decide +kernel) rfl) (zT_mem 1731 (by decide +kernel) rfl) (zT_mem 55 (by decide +kernel) rfl) rfl rfl (Nat.le_of_ble_eq_true rfl) ⟨by decide, by decide⟩ (by decide +kernel) ?_
  refine zV_eq (st2 := [.long v2, .long x2]) rfl rfl rfl rfl ?_
  refine zV_blk (pc' := 17) (lo' := [(4, .long v1), (0, .ref am), (1, .int x1), (2, .long x2)]) (st' := [.ref am, .long v1, .long (x2 * v2)]) [.lmul, .lload 4, .aload_n 0] (by decide +kernel) rfl ?_
  refine m_get (idx := 18) (k := 12) (v := .ref a2) hW m_in12 (by decide) (zT_mem 1452 (by decide +kernel) rfl) rfl (by decide +kernel) ?_
  refine zV_blk (pc' := 24) (lo' := [(4, .long v1), (0, .ref am), (1, .int x1), (2, .long x2)]) (st' := [.int (x1 + 14), .ref a2, .long v1, .long (x2 * v2)]) [.iload_n 1, .bipush 14, .iadd] (by decide +kernel) rfl ?_
  obtain ⟨hz, h⟩ := zck_some h
  refine m_wld hW hz (by decide +kernel) ?_
  refine zV_blk (pc' := 26) (lo' := [(4, .long v1), (0, .ref am), (1, .int x1), (2, .long x2)]) (st' := [.long ((w ((x1 + 14) : Int32).toNatClampNeg) : Int32).toInt64, .long v1, .long (x2 * v2)]) [.i2l] (by decide +kernel) rfl ?_
  obtain ⟨hz, h⟩ := zck_some h
  refine zV_ldiv (by decide +kernel) (of_decide_eq_true hz) ?_
  refine zV_blk (pc' := 29) (lo' := [(4, .long v1), (0, .ref am), (1, .int x1), (2, .long x2)]) (st' := [.ref am, .long ((x2 * v2) * (v1 / ((w ((x1 + 14) : Int32).toNatClampNeg) : Int32).toInt64))]) [.lmul, .aload_n 0] (by decide +kernel) rfl ?_
  refine m_get (idx := 18) (k := 12) (v := .ref a2) hW m_in12 (by decide) (zT_mem 1452 (by decide +kernel) rfl) rfl (by decide +kernel) ?_
  refine zV_blk (pc' := 36) (lo' := [(4, .long v1), (0, .ref am), (1, .int x1), (2, .long x2)]) (st' := [.int (x1 + 15), .ref a2, .long ((x2 * v2) * (v1 / ((w ((x1 + 14) : Int32).toNatClampNeg) : Int32).toInt64))]) [.iload_n 1, .bipush 15, .iadd] (by decide +kernel) rfl ?_
  obtain ⟨hz, h⟩ := zck_some h
  refine m_wld hW hz (by decide +kernel) ?_
  refine zV_blk (pc' := 41) (lo' := [(4, .long v1), (0, .ref am), (1, .int x1), (2, .long x2)]) (st' := [.ref am, .long v1, .long ((w ((x1 + 15) : Int32).toNatClampNeg) : Int32).toInt64, .long ((x2 * v2) * (v1 / ((w ((x1 + 14) : Int32).toNatClampNeg) : Int32).toInt64))]) [.i2l, .lload 4, .aload_n 0] (by decide +kernel) rfl ?_
  refine m_get (idx := 18) (k := 12) (v := .ref a2) hW m_in12 (by decide) (zT_mem 1452 (by decide +kernel) rfl) rfl (by decide +kernel) ?_
  refine zV_blk (pc' := 48) (lo' := [(4, .long v1), (0, .ref am), (1, .int x1), (2, .long x2)]) (st' := [.int (x1 + 16), .ref a2, .long v1, .long ((w ((x1 + 15) : Int32).toNatClampNeg) : Int32).toInt64, .long ((x2 * v2) * (v1 / ((w ((x1 + 14) : Int32).toNatClampNeg) : Int32).toInt64))]) [.iload_n 1, .bipush 16, .iadd] (by decide +kernel) rfl ?_
  obtain ⟨hz, h⟩ := zck_some h
  refine m_wld hW hz (by decide +kernel) ?_
  refine zV_blk (pc' := 50) (lo' := [(4, .long v1), (0, .ref am), (1, .int x1), (2, .long x2)]) (st' := [.long ((w ((x1 + 16) : Int32).toNatClampNeg) : Int32).toInt64, .long v1, .long ((w ((x1 + 15) : Int32).toNatClampNeg) : Int32).toInt64, .long ((x2 * v2) * (v1 / ((w ((x1 + 14) : Int32).toNatClampNeg) : Int32).toInt64))]) [.i2l] (by decide +kernel) rfl ?_
  obtain ⟨hz, h⟩ := zck_some h
  refine zV_ldiv (by decide +kernel) (of_decide_eq_true hz) ?_
  refine zV_blk (pc' := 53) (lo' := [(4, .long v1), (0, .ref am), (1, .int x1), (2, .long x2)]) (st' := [.long (((x2 * v2) * (v1 / ((w ((x1 + 14) : Int32).toNatClampNeg) : Int32).toInt64)) + (((w ((x1 + 15) : Int32).toNatClampNeg) : Int32).toInt64 * (v1 / ((w ((x1 + 16) : Int32).toNatClampNeg) : Int32).toInt64)))]) [.lmul, .ladd] (by decide +kernel) rfl ?_
  obtain rfl := Option.some.inj h
  exact zV_lret rfl (by decide +kernel) (hQ _ rfl)

def mdriftOf (n : Nat) (w : Nat → Int32) (x1 : Int32) (x2 : Int64) : Option (Int64) := (mstartOf n w x1 x2).bind (fun v1 => (mbelowOf n w x1).bind (fun v2 => (mdawnOf n w x1 x2).bind (fun v3 => some ((v1 * v2) - v3))))
theorem oX12_driftOf : zO yX12_driftOf cX12_driftOf 4 (some .long) 2 := ⟨zT_mem 1896 (by decide +kernel) rfl, zT_mem 94 (by decide +kernel) rfl, by decide +kernel, by decide +kernel, by decide +kernel⟩
set_option maxHeartbeats 4000000 in
set_option maxRecDepth 100000 in
theorem cmdriftOf (s0 : State) (D : va_G) (cB cI cJ cD : ClassId) (am a1 a2 a3 : Nat) (F : Nat → Int32) (G : Nat → Int64) (tp w oc : Nat → Int32) (n : Nat) (x1 : Int32) (x2 : Int64) (x : Int64) (h : mdriftOf n w x1 x2 = some x) : mR s0 D cB cI cJ cD am a1 a2 a3 yX12_driftOf cX12_driftOf 4 (some .long) 4 97 [.int x1, .long x2] F G tp w oc (some (.long x)) := by
  intro hi hm nx Q hW hQ0
  have hQ : ∀ r : Int64, x = r → Q (some (.long r)) hi hm nx := fun r hr => by subst hr; exact hQ0
  refine zM_of (by decide +kernel) (Nat.le_of_ble_eq_true rfl) ?_
  unfold mdriftOf at h
  refine zV_eq (lo2 := [(0, .ref am), (1, .int x1), (2, .long x2)]) rfl rfl rfl rfl ?_
  refine zV_blk (pc' := 3) (lo' := [(0, .ref am), (1, .int x1), (2, .long x2)]) (st' := [.long x2, .int x1, .ref am]) [.aload_n 0, .iload_n 1, .lload_n 2] (by decide +kernel) rfl ?_
  obtain ⟨v1, hv1, h⟩ := zbind h
  refine m_cR (idx := 244) (rest := []) hW (cmstartOf s0 D cB cI cJ cD am a1 a2 a3 F G tp w oc n x1 x2 v1 hv1) oX12_startOf rfl (zT_mem 1742 (by decide +kernel) rfl) (zT_mem 1744 (by decide +kernel) rfl) (zT_mem 56 (by decide +kernel) rfl) rfl rfl (Nat.le_of_ble_eq_true rfl) ⟨by decide, by decide⟩ (by decide +kernel) ?_
  refine zV_eq (st2 := [.long v1]) rfl rfl rfl rfl ?_
  refine zV_blk (pc' := 8) (lo' := [(0, .ref am), (1, .int x1), (2, .long x2)]) (st' := [.int x1, .ref am, .long v1]) [.aload_n 0, .iload_n 1] (by decide +kernel) rfl ?_
  obtain ⟨v2, hv2, h⟩ := zbind h
  refine m_cR (idx := 347) (rest := [.long v1]) hW (cmbelowOf s0 D cB cI cJ cD am a1 a2 a3 F G tp w oc n x1 v2 hv2) oX12_belowOf rfl (zT_mem 1897 (by decide +kernel) rfl) (zT_mem 1899 (by decide +kernel) rfl) (zT_mem 74 (by decide +kernel) rfl) rfl rfl (Nat.le_of_ble_eq_true rfl) ⟨by decide, by decide⟩ (by decide +kernel) ?_
  refine zV_eq (st2 := [.long v2, .long v1]) rfl rfl rfl rfl ?_
  refine zV_blk (pc' := 15) (lo' := [(0, .ref am), (1, .int x1), (2, .long x2)]) (st' := [.long x2, .int x1, .ref am, .long (v1 * v2)]) [.lmul, .aload_n 0, .iload_n 1, .lload_n 2] (by decide +kernel) rfl ?_
  obtain ⟨v3, hv3, h⟩ := zbind h
  refine m_cR (idx := 350) (rest := [.long (v1 * v2)]) hW (cmdawnOf s0 D cB cI cJ cD am a1 a2 a3 F G tp w oc n x1 x2 v3 hv3) oX12_dawnOf rfl (zT_mem 1901 (by decide +kernel) rfl) (zT_mem 1903 (by decide +kernel) rfl) (zT_mem 75 (by decide +kernel) rfl) rfl rfl (Nat.le_of_ble_eq_true rfl) ⟨by decide, by decide⟩ (by decide +kernel) ?_
  refine zV_eq (st2 := [.long v3, .long (v1 * v2)]) rfl rfl rfl rfl ?_
  refine zV_blk (pc' := 19) (lo' := [(0, .ref am), (1, .int x1), (2, .long x2)]) (st' := [.long ((v1 * v2) - v3)]) [.lsub] (by decide +kernel) rfl ?_
  obtain rfl := Option.some.inj h
  exact zV_lret rfl (by decide +kernel) (hQ _ rfl)

def mdrift (n : Nat) (F : Nat → Int32) (w : Nat → Int32) (x1 : Int32) (x2 : Int32) (x3 : Int32) : Option (Int64 × (Nat → Int32)) := (misThere w x1).bind (fun v1 => (if v1 = true then (misYear (x2 : Int32).toInt64).bind (fun v2 => (if v2 = true then (mbank x1).bind (fun v3 => (mdriftOf n w v3 (x2 : Int32).toInt64).bind (fun v4 => (mbank x1).bind (fun v5 => (mbelowOf n w v5).bind (fun v6 => (mpartOf n v4 v6 x3).bind (fun v7 => some (v7, (upd F 0 0))))))) else some ((-1000000000000000), (upd F 0 0)))) else some ((-1000000000000000), (upd F 0 0))))
theorem oX12_drift : zO yX12_drift cX12_drift 4 (some .long) 3 := ⟨zT_mem 1892 (by decide +kernel) rfl, zT_mem 94 (by decide +kernel) rfl, by decide +kernel, by decide +kernel, by decide +kernel⟩
set_option maxHeartbeats 4000000 in
set_option maxRecDepth 100000 in
theorem cmdrift (s0 : State) (D : va_G) (cB cI cJ cD : ClassId) (am a1 a2 a3 : Nat) (F : Nat → Int32) (G : Nat → Int64) (tp w oc : Nat → Int32) (n : Nat) (x1 : Int32) (x2 : Int32) (x3 : Int32) (x : Int64 × (Nat → Int32)) (h : mdrift n F w x1 x2 x3 = some x) : mC s0 D cB cI cJ cD am a1 a2 a3 yX12_drift cX12_drift 4 (some .long) 5 120 [.int x1, .int x2, .int x3] F G tp w oc (some (.long x.1)) x.2 G tp w oc := by
  intro hi hm nx Q hW hQ0
  have hQ : ∀ r : Int64 × (Nat → Int32), x = r → ∀ hm', mW cB cI am a1 a2 a3 r.2 G tp w oc hm' → mFr am a1 a2 a3 hm hm' → Q (some (.long r.1)) hi hm' nx := fun r hr => by subst hr; exact hQ0
  have hFr : mFr am a1 a2 a3 hm hm := mFr.rf
  clear hQ0
  refine zM_of (by decide +kernel) (Nat.le_of_ble_eq_true rfl) ?_
  unfold mdrift at h
  refine zV_eq (lo2 := [(0, .ref am), (1, .int x1), (2, .int x2), (3, .int x3)]) rfl rfl rfl rfl ?_
  refine zV_blk (pc' := 2) (lo' := [(0, .ref am), (1, .int x1), (2, .int x2), (3, .int x3)]) (st' := [.int 0, .ref am]) [.aload_n 0, .iconst 0] (by decide +kernel) rfl ?_
  refine m_put (idx := 25) (k := 0) (v := .int 0) (F' := (upd F 0 0)) (G' := G) hW m_in12 (by decide) (zT_mem 1440 (by decide +kernel) rfl) rfl rfl rfl rfl (by decide +kernel) (fun hm hW hFr2 => ?_)
  replace hFr := hFr.tr hFr2; clear hFr2
  refine zV_blk (pc' := 7) (lo' := [(0, .ref am), (1, .int x1), (2, .int x2), (3, .int x3)]) (st' := [.int x1, .ref am]) [.aload_n 0, .iload_n 1] (by decide +kernel) rfl ?_
  obtain ⟨v1, hv1, h⟩ := zbind h
  refine m_cR (idx := 273) (rest := []) hW (cmisThere s0 D cB cI cJ cD am a1 a2 a3 (upd F 0 0) G tp w oc x1 v1 hv1) oX12_isThere rfl (zT_mem 1686 (by decide +kernel) rfl) (zT_mem 1688 (by decide +kernel) rfl) (zT_mem 49 (by decide +kernel) rfl) rfl rfl (Nat.le_of_ble_eq_true rfl) ⟨by decide, by decide⟩ (by decide +kernel) ?_
  refine zV_eq (st2 := [.int (zb v1)]) rfl rfl rfl rfl ?_
  refine zV_bif_eq (tgt := 46) (off := 36) (by decide +kernel) (by decide) (fun q => ?_) (fun q => ?_)
  · replace h := zif_neg q h
    clear q
    refine zV_ldc2 (idx := 40) (v := (-1000000000000000)) (zT_mem 1728 (by decide +kernel) rfl) (by decide +kernel) ?_
    obtain rfl := Option.some.inj h
    exact zV_lret rfl (by decide +kernel) (hQ _ rfl hm hW hFr)
  · replace h := zif_pos q h
    clear q
    refine zV_blk (pc' := 15) (lo' := [(0, .ref am), (1, .int x1), (2, .int x2), (3, .int x3)]) (st' := [.long (x2 : Int32).toInt64]) [.iload_n 2, .i2l] (by decide +kernel) rfl ?_
    obtain ⟨v2, hv2, h⟩ := zbind h
    refine zV_sC (idx := 255) (rest := []) (cmisYear s0 D cB cI cJ cD (x2 : Int32).toInt64 v2 hv2) oX12_isYear (zT_mem 1817 (by decide +kernel) rfl) (zT_mem 1818 (by decide +kernel) rfl) rfl rfl (Nat.le_of_ble_eq_true rfl) ⟨by decide, by decide⟩ (by decide +kernel) ?_
    refine zV_eq (st2 := [.int (zb v2)]) rfl rfl rfl rfl ?_
    refine zV_bif_eq (tgt := 46) (off := 28) (by decide +kernel) (by decide) (fun q => ?_) (fun q => ?_)
    · replace h := zif_neg q h
      clear q
      refine zV_ldc2 (idx := 40) (v := (-1000000000000000)) (zT_mem 1728 (by decide +kernel) rfl) (by decide +kernel) ?_
      obtain rfl := Option.some.inj h
      exact zV_lret rfl (by decide +kernel) (hQ _ rfl hm hW hFr)
    · replace h := zif_pos q h
      clear q
      refine zV_blk (pc' := 23) (lo' := [(0, .ref am), (1, .int x1), (2, .int x2), (3, .int x3)]) (st' := [.int x1, .ref am]) [.aload_n 0, .iload_n 1] (by decide +kernel) rfl ?_
      obtain ⟨v3, hv3, h⟩ := zbind h
      refine zV_sC (idx := 118) (rest := [.ref am]) (cmbank s0 D cB cI cJ cD x1 v3 hv3) oX12_bank (zT_mem 1671 (by decide +kernel) rfl) (zT_mem 1672 (by decide +kernel) rfl) rfl rfl (Nat.le_of_ble_eq_true rfl) ⟨by decide, by decide⟩ (by decide +kernel) ?_
      refine zV_eq (st2 := [.int v3, .ref am]) rfl rfl rfl rfl ?_
      refine zV_blk (pc' := 28) (lo' := [(0, .ref am), (1, .int x1), (2, .int x2), (3, .int x3)]) (st' := [.long (x2 : Int32).toInt64, .int v3, .ref am]) [.iload_n 2, .i2l] (by decide +kernel) rfl ?_
      obtain ⟨v4, hv4, h⟩ := zbind h
      refine m_cR (idx := 353) (rest := []) hW (cmdriftOf s0 D cB cI cJ cD am a1 a2 a3 (upd F 0 0) G tp w oc n v3 (x2 : Int32).toInt64 v4 hv4) oX12_driftOf rfl (zT_mem 1893 (by decide +kernel) rfl) (zT_mem 1895 (by decide +kernel) rfl) (zT_mem 73 (by decide +kernel) rfl) rfl rfl (Nat.le_of_ble_eq_true rfl) ⟨by decide, by decide⟩ (by decide +kernel) ?_
      refine zV_eq (st2 := [.long v4]) rfl rfl rfl rfl ?_
      refine zV_blk (pc' := 33) (lo' := [(0, .ref am), (1, .int x1), (2, .int x2), (3, .int x3)]) (st' := [.int x1, .ref am, .long v4]) [.aload_n 0, .iload_n 1] (by decide +kernel) rfl ?_
      obtain ⟨v5, hv5, h⟩ := zbind h
      refine zV_sC (idx := 118) (rest := [.ref am, .long v4]) (cmbank s0 D cB cI cJ cD x1 v5 hv5) oX12_bank (zT_mem 1671 (by decide +kernel) rfl) (zT_mem 1672 (by decide +kernel) rfl) rfl rfl (Nat.le_of_ble_eq_true rfl) ⟨by decide, by decide⟩ (by decide +kernel) ?_
      refine zV_eq (st2 := [.int v5, .ref am, .long v4]) rfl rfl rfl rfl ?_
      obtain ⟨v6, hv6, h⟩ := zbind h
      refine m_cR (idx := 347) (rest := [.long v4]) hW (cmbelowOf s0 D cB cI cJ cD am a1 a2 a3 (upd F 0 0) G tp w oc n v5 v6 hv6) oX12_belowOf rfl (zT_mem 1897 (by decide +kernel) rfl) (zT_mem 1899 (by decide +kernel) rfl) (zT_mem 74 (by decide +kernel) rfl) rfl rfl (Nat.le_of_ble_eq_true rfl) ⟨by decide, by decide⟩ (by decide +kernel) ?_
      refine zV_eq (st2 := [.long v6, .long v4]) rfl rfl rfl rfl ?_
      refine zV_blk (pc' := 40) (lo' := [(0, .ref am), (1, .int x1), (2, .int x2), (3, .int x3)]) (st' := [.int x3, .long v6, .long v4]) [.iload_n 3] (by decide +kernel) rfl ?_
      obtain ⟨v7, hv7, h⟩ := zbind h
      refine zV_sC (idx := 286) (rest := []) (cmpartOf s0 D cB cI cJ cD n v4 v6 x3 v7 hv7) oX12_partOf (zT_mem 1733 (by decide +kernel) rfl) (zT_mem 1734 (by decide +kernel) rfl) rfl rfl (Nat.le_of_ble_eq_true rfl) ⟨by decide, by decide⟩ (by decide +kernel) ?_
      refine zV_eq (st2 := [.long v7]) rfl rfl rfl rfl ?_
      refine zV_goto (tgt := 49) (off := 6) (by decide +kernel) (by decide) ?_
      obtain rfl := Option.some.inj h
      exact zV_lret rfl (by decide +kernel) (hQ _ rfl hm hW hFr)

def misSpan (x0 : Int32) (x1 : Int32) : Option (Bool) := (misYear (x0 : Int32).toInt64).bind (fun v1 => (if v1 = true then (misYear (x1 : Int32).toInt64).bind (fun v2 => (if v2 = true then (misIn ((x1 : Int32).toInt64 - (x0 : Int32).toInt64) 0 20000).bind (fun v3 => (if v3 = true then some true else some false)) else some false)) else some false))
theorem oX12_isSpan : zO yX12_isSpan cX12_isSpan 2 (some .boolean) 2 := ⟨zT_mem 1911 (by decide +kernel) rfl, zT_mem 94 (by decide +kernel) rfl, by decide +kernel, by decide +kernel, by decide +kernel⟩
set_option maxHeartbeats 4000000 in
set_option maxRecDepth 100000 in
theorem cmisSpan (s0 : State) (D : va_G) (cB cI cJ cD : ClassId) (x0 : Int32) (x1 : Int32) (x : Bool) (h : misSpan x0 x1 = some x) : sC s0 D (zty cB cI cJ cD) yX12_isSpan cX12_isSpan 2 (some .boolean) 2 46 [.int x0, .int x1] (.int (zb x)) := by
  intro hi hm nx Q hQ0
  have hQ : ∀ r : Bool, x = r → Q (some (.int (zb r))) hi hm nx := fun r hr => by subst hr; exact hQ0
  refine zM_of (by decide +kernel) (Nat.le_of_ble_eq_true rfl) ?_
  unfold misSpan at h
  refine zV_eq (lo2 := [(0, .int x0), (1, .int x1)]) rfl rfl rfl rfl ?_
  refine zV_blk (pc' := 2) (lo' := [(0, .int x0), (1, .int x1)]) (st' := [.long (x0 : Int32).toInt64]) [.iload_n 0, .i2l] (by decide +kernel) rfl ?_
  obtain ⟨v1, hv1, h⟩ := zbind h
  refine zV_sC (idx := 255) (rest := []) (cmisYear s0 D cB cI cJ cD (x0 : Int32).toInt64 v1 hv1) oX12_isYear (zT_mem 1817 (by decide +kernel) rfl) (zT_mem 1818 (by decide +kernel) rfl) rfl rfl (Nat.le_of_ble_eq_true rfl) ⟨by decide, by decide⟩ (by decide +kernel) ?_
  refine zV_eq (st2 := [.int (zb v1)]) rfl rfl rfl rfl ?_
  refine zV_bif_eq (tgt := 35) (off := 30) (by decide +kernel) (by decide) (fun q => ?_) (fun q => ?_)
  · replace h := zif_neg q h
    clear q
    refine zV_blk (pc' := 36) (lo' := [(0, .int x0), (1, .int x1)]) (st' := [.int 0]) [.iconst 0] (by decide +kernel) rfl ?_
    obtain rfl := Option.some.inj h
    refine zV_eq (st2 := [.int (zb false)]) rfl rfl rfl rfl ?_
    exact zV_bret rfl (by decide +kernel) (hQ _ rfl)
  · replace h := zif_pos q h
    clear q
    refine zV_blk (pc' := 10) (lo' := [(0, .int x0), (1, .int x1)]) (st' := [.long (x1 : Int32).toInt64]) [.iload_n 1, .i2l] (by decide +kernel) rfl ?_
    obtain ⟨v2, hv2, h⟩ := zbind h
    refine zV_sC (idx := 255) (rest := []) (cmisYear s0 D cB cI cJ cD (x1 : Int32).toInt64 v2 hv2) oX12_isYear (zT_mem 1817 (by decide +kernel) rfl) (zT_mem 1818 (by decide +kernel) rfl) rfl rfl (Nat.le_of_ble_eq_true rfl) ⟨by decide, by decide⟩ (by decide +kernel) ?_
    refine zV_eq (st2 := [.int (zb v2)]) rfl rfl rfl rfl ?_
    refine zV_bif_eq (tgt := 35) (off := 22) (by decide +kernel) (by decide) (fun q => ?_) (fun q => ?_)
    · replace h := zif_neg q h
      clear q
      refine zV_blk (pc' := 36) (lo' := [(0, .int x0), (1, .int x1)]) (st' := [.int 0]) [.iconst 0] (by decide +kernel) rfl ?_
      obtain rfl := Option.some.inj h
      refine zV_eq (st2 := [.int (zb false)]) rfl rfl rfl rfl ?_
      exact zV_bret rfl (by decide +kernel) (hQ _ rfl)
    · replace h := zif_pos q h
      clear q
      refine zV_blk (pc' := 22) (lo' := [(0, .int x0), (1, .int x1)]) (st' := [.long 0, .long ((x1 : Int32).toInt64 - (x0 : Int32).toInt64)]) [.iload_n 1, .i2l, .iload_n 0, .i2l, .lsub, .lconst 0] (by decide +kernel) rfl ?_
      refine zV_ldc2 (idx := 356) (v := 20000) (zT_mem 1912 (by decide +kernel) rfl) (by decide +kernel) ?_
      obtain ⟨v3, hv3, h⟩ := zbind h
      refine zV_sC (idx := 36) (rest := []) (cmisIn s0 D cB cI cJ cD ((x1 : Int32).toInt64 - (x0 : Int32).toInt64) 0 20000 v3 hv3) oX12_isIn (zT_mem 1531 (by decide +kernel) rfl) (zT_mem 1532 (by decide +kernel) rfl) rfl rfl (Nat.le_of_ble_eq_true rfl) ⟨by decide, by decide⟩ (by decide +kernel) ?_
      refine zV_eq (st2 := [.int (zb v3)]) rfl rfl rfl rfl ?_
      refine zV_bif_eq (tgt := 35) (off := 7) (by decide +kernel) (by decide) (fun q => ?_) (fun q => ?_)
      · replace h := zif_neg q h
        clear q
        refine zV_blk (pc' := 36) (lo' := [(0, .int x0), (1, .int x1)]) (st' := [.int 0]) [.iconst 0] (by decide +kernel) rfl ?_
        obtain rfl := Option.some.inj h
        refine zV_eq (st2 := [.int (zb false)]) rfl rfl rfl rfl ?_
        exact zV_bret rfl (by decide +kernel) (hQ _ rfl)
      · replace h := zif_pos q h
        clear q
        refine zV_blk (pc' := 32) (lo' := [(0, .int x0), (1, .int x1)]) (st' := [.int 1]) [.iconst 1] (by decide +kernel) rfl ?_
        refine zV_goto (tgt := 36) (off := 4) (by decide +kernel) (by decide) ?_
        obtain rfl := Option.some.inj h
        refine zV_eq (st2 := [.int (zb true)]) rfl rfl rfl rfl ?_
        exact zV_bret rfl (by decide +kernel) (hQ _ rfl)

def mextreme_114 (n : Nat) (F : Nat → Int32) (w : Nat → Int32) (x3 : Int32) (x4 : Int32) (x5 : Int32) (x6 : Int32) (x7 : Int32) (x8 : Int64) (x10 : Int32) : Option ((Int32 × Int64 × Int32) ⊕ (Int64 × (Nat → Int32))) := some (.inl (x7, x8, (x10 + 1)))
set_option maxHeartbeats 4000000 in
set_option maxRecDepth 100000 in
theorem cmextreme_114 (s0 : State) (D : va_G) (cB cI cJ cD : ClassId) (am a1 a2 a3 : Nat) (F : Nat → Int32) (G : Nat → Int64) (tp w oc : Nat → Int32) (n : Nat) (x3 : Int32) (x4 : Int32) (x5 : Int32) (x6 : Int32) (x7 : Int32) (x8 : Int64) (x10 : Int32) {hi hm : zHp} {nx : Nat} {Q : Option Value → zHp → zHp → Nat → Prop} {hm0 : zHp} {x : (Int32 × Int64 × Int32) ⊕ (Int64 × (Nat → Int32))} (hW : mW cB cI am a1 a2 a3 F G tp w oc hm) (hFr : mFr am a1 a2 a3 hm0 hm) (h : mextreme_114 n F w x3 x4 x5 x6 x7 x8 x10 = some x) (hL62 : ∀ s : Int32 × Int64 × Int32, x = (.inl s) → ∀ hm', mW cB cI am a1 a2 a3 F G tp w oc hm' → mFr am a1 a2 a3 hm0 hm' → zV s0 D (zty cB cI cJ cD) yX12_extreme cX12_extreme 13 (some .long) 5 120 0 0 62 [(0, .ref am), (3, .int x3), (4, .int x4), (5, .int x5), (6, .int x6), (7, .int s.1), (8, .long s.2.1), (10, .int s.2.2)] [] hi hm' nx Q) (hQ : ∀ r : Int64 × (Nat → Int32), x = (.inr r) → ∀ hm', mW cB cI am a1 a2 a3 r.2 G tp w oc hm' → mFr am a1 a2 a3 hm0 hm' → Q (some (.long r.1)) hi hm' nx) : zV s0 D (zty cB cI cJ cD) yX12_extreme cX12_extreme 13 (some .long) 5 120 0 0 114 [(0, .ref am), (3, .int x3), (4, .int x4), (5, .int x5), (6, .int x6), (7, .int x7), (8, .long x8), (10, .int x10)] [] hi hm nx Q := by
  unfold mextreme_114 at h
  refine zV_blk (pc' := 117) (lo' := [(10, .int (x10 + 1)), (0, .ref am), (3, .int x3), (4, .int x4), (5, .int x5), (6, .int x6), (7, .int x7), (8, .long x8)]) (st' := []) [.iinc 10 1] (by decide +kernel) rfl ?_
  refine zV_goto (tgt := 62) (off := -55) (by decide +kernel) (by decide) ?_
  obtain rfl := Option.some.inj h
  refine zV_pick (lo2 := [(0, .ref am), (3, .int x3), (4, .int x4), (5, .int x5), (6, .int x6), (7, .int x7), (8, .long x8), (10, .int (x10 + 1))]) [1, 2, 3, 4, 5, 6, 7, 0] rfl ?_
  exact hL62 _ rfl hm hW hFr
def mextreme_106 (n : Nat) (F : Nat → Int32) (w : Nat → Int32) (x3 : Int32) (x4 : Int32) (x5 : Int32) (x6 : Int32) (x10 : Int32) (x11 : Int64) : Option ((Int32 × Int64 × Int32) ⊕ (Int64 × (Nat → Int32))) := (mextreme_114 n F w x3 x4 x5 x6 x10 x11 x10)
set_option maxHeartbeats 4000000 in
set_option maxRecDepth 100000 in
theorem cmextreme_106 (s0 : State) (D : va_G) (cB cI cJ cD : ClassId) (am a1 a2 a3 : Nat) (F : Nat → Int32) (G : Nat → Int64) (tp w oc : Nat → Int32) (n : Nat) (x3 : Int32) (x4 : Int32) (x5 : Int32) (x6 : Int32) (x10 : Int32) (x11 : Int64) {hi hm : zHp} {nx : Nat} {Q : Option Value → zHp → zHp → Nat → Prop} {hm0 : zHp} {x : (Int32 × Int64 × Int32) ⊕ (Int64 × (Nat → Int32))} (hW : mW cB cI am a1 a2 a3 F G tp w oc hm) (hFr : mFr am a1 a2 a3 hm0 hm) (h : mextreme_106 n F w x3 x4 x5 x6 x10 x11 = some x) (hL62 : ∀ s : Int32 × Int64 × Int32, x = (.inl s) → ∀ hm', mW cB cI am a1 a2 a3 F G tp w oc hm' → mFr am a1 a2 a3 hm0 hm' → zV s0 D (zty cB cI cJ cD) yX12_extreme cX12_extreme 13 (some .long) 5 120 0 0 62 [(0, .ref am), (3, .int x3), (4, .int x4), (5, .int x5), (6, .int x6), (7, .int s.1), (8, .long s.2.1), (10, .int s.2.2)] [] hi hm' nx Q) (hQ : ∀ r : Int64 × (Nat → Int32), x = (.inr r) → ∀ hm', mW cB cI am a1 a2 a3 r.2 G tp w oc hm' → mFr am a1 a2 a3 hm0 hm' → Q (some (.long r.1)) hi hm' nx) : zV s0 D (zty cB cI cJ cD) yX12_extreme cX12_extreme 13 (some .long) 5 120 0 0 106 [(0, .ref am), (3, .int x3), (4, .int x4), (5, .int x5), (6, .int x6), (10, .int x10), (11, .long x11)] [] hi hm nx Q := by
  unfold mextreme_106 at h
  refine zV_blk (pc' := 114) (lo' := [(7, .int x10), (8, .long x11), (0, .ref am), (3, .int x3), (4, .int x4), (5, .int x5), (6, .int x6), (10, .int x10), (11, .long x11)]) (st' := []) [.lload 11, .lstore 8, .iload 10, .istore 7] (by decide +kernel) rfl ?_
  refine zV_pick (lo2 := [(0, .ref am), (3, .int x3), (4, .int x4), (5, .int x5), (6, .int x6), (7, .int x10), (8, .long x11), (10, .int x10)]) [2, 3, 4, 5, 6, 0, 1, 7] rfl ?_
  exact cmextreme_114 s0 D cB cI cJ cD am a1 a2 a3 F G tp w oc n x3 x4 x5 x6 x10 x11 x10 hW hFr h hL62 hQ
def mextreme_62 (n : Nat) (F : Nat → Int32) (w : Nat → Int32) (x3 : Int32) (x4 : Int32) (x5 : Int32) (x6 : Int32) (s : Int32 × Int64 × Int32) : Option ((Int32 × Int64 × Int32) ⊕ (Int64 × (Nat → Int32))) := (if (x3 : Int32) < (s.2.2 : Int32) then (if (x5 : Int32) = (2 : Int32) then some (.inr ((s.1 : Int32).toInt64, F)) else (mbelowOf n w x6).bind (fun v1 => (mpartOf n s.2.1 v1 x5).bind (fun v2 => some (.inr (v2, F))))) else (mdriftOf n w x6 (s.2.2 : Int32).toInt64).bind (fun v3 => (if (x4 : Int32) = (0 : Int32) then (if (v3 : Int64) < (s.2.1 : Int64) then (mextreme_106 n F w x3 x4 x5 x6 s.2.2 v3) else (mextreme_114 n F w x3 x4 x5 x6 s.1 s.2.1 s.2.2)) else (if (s.2.1 : Int64) < (v3 : Int64) then (mextreme_106 n F w x3 x4 x5 x6 s.2.2 v3) else (mextreme_114 n F w x3 x4 x5 x6 s.1 s.2.1 s.2.2)))))
set_option maxHeartbeats 4000000 in
set_option maxRecDepth 100000 in
theorem cmextreme_62 (s0 : State) (D : va_G) (cB cI cJ cD : ClassId) (am a1 a2 a3 : Nat) (F : Nat → Int32) (G : Nat → Int64) (tp : Nat → Int32) (w : Nat → Int32) (oc : Nat → Int32) (n : Nat) (x3 : Int32) (x4 : Int32) (x5 : Int32) (x6 : Int32) (s : Int32 × Int64 × Int32) (x : (Int32 × Int64 × Int32) ⊕ (Int64 × (Nat → Int32))) {hi hm : zHp} {nx : Nat} {Q : Option Value → zHp → zHp → Nat → Prop} {hm0 : zHp} (hW : mW cB cI am a1 a2 a3 F G tp w oc hm) (hFr : mFr am a1 a2 a3 hm0 hm) (h : mextreme_62 n F w x3 x4 x5 x6 s = some x) (hL62 : ∀ s : Int32 × Int64 × Int32, x = (.inl s) → ∀ hm', mW cB cI am a1 a2 a3 F G tp w oc hm' → mFr am a1 a2 a3 hm0 hm' → zV s0 D (zty cB cI cJ cD) yX12_extreme cX12_extreme 13 (some .long) 5 120 0 0 62 [(0, .ref am), (3, .int x3), (4, .int x4), (5, .int x5), (6, .int x6), (7, .int s.1), (8, .long s.2.1), (10, .int s.2.2)] [] hi hm' nx Q) (hQ : ∀ r : Int64 × (Nat → Int32), x = (.inr r) → ∀ hm', mW cB cI am a1 a2 a3 r.2 G tp w oc hm' → mFr am a1 a2 a3 hm0 hm' → Q (some (.long r.1)) hi hm' nx) : zV s0 D (zty cB cI cJ cD) yX12_extreme cX12_extreme 13 (some .long) 5 120 0 0 62 [(0, .ref am), (3, .int x3), (4, .int x4), (5, .int x5), (6, .int x6), (7, .int s.1), (8, .long s.2.1), (10, .int s.2.2)] [] hi hm nx Q := by
  unfold mextreme_62 at h
  refine zV_blk (pc' := 65) (lo' := [(0, .ref am), (3, .int x3), (4, .int x4), (5, .int x5), (6, .int x6), (7, .int s.1), (8, .long s.2.1), (10, .int s.2.2)]) (st' := [.int x3, .int s.2.2]) [.iload 10, .iload_n 3] (by decide +kernel) rfl ?_
  refine zV_icmp_gt (tgt := 120) (off := 55) (by decide +kernel) (by decide) (fun q => ?_) (fun q => ?_)
  · replace h := zif_pos q h
    clear q
    refine zV_blk (pc' := 123) (lo' := [(0, .ref am), (3, .int x3), (4, .int x4), (5, .int x5), (6, .int x6), (7, .int s.1), (8, .long s.2.1), (10, .int s.2.2)]) (st' := [.int 2, .int x5]) [.iload 5, .iconst 2] (by decide +kernel) rfl ?_
    refine zV_icmp_ne (tgt := 132) (off := 9) (by decide +kernel) (by decide) (fun q => ?_) (fun q => ?_)
    · replace h := zif_neg q h
      clear q
      refine zV_blk (pc' := 137) (lo' := [(0, .ref am), (3, .int x3), (4, .int x4), (5, .int x5), (6, .int x6), (7, .int s.1), (8, .long s.2.1), (10, .int s.2.2)]) (st' := [.int x6, .ref am, .long s.2.1]) [.lload 8, .aload_n 0, .iload 6] (by decide +kernel) rfl ?_
      obtain ⟨v1, hv1, h⟩ := zbind h
      refine m_cR (idx := 347) (rest := [.long s.2.1]) hW (cmbelowOf s0 D cB cI cJ cD am a1 a2 a3 F G tp w oc n x6 v1 hv1) oX12_belowOf rfl (zT_mem 1897 (by decide +kernel) rfl) (zT_mem 1899 (by decide +kernel) rfl) (zT_mem 74 (by decide +kernel) rfl) rfl rfl (Nat.le_of_ble_eq_true rfl) ⟨by decide, by decide⟩ (by decide +kernel) ?_
      refine zV_eq (st2 := [.long v1, .long s.2.1]) rfl rfl rfl rfl ?_
      refine zV_blk (pc' := 142) (lo' := [(0, .ref am), (3, .int x3), (4, .int x4), (5, .int x5), (6, .int x6), (7, .int s.1), (8, .long s.2.1), (10, .int s.2.2)]) (st' := [.int x5, .long v1, .long s.2.1]) [.iload 5] (by decide +kernel) rfl ?_
      obtain ⟨v2, hv2, h⟩ := zbind h
      refine zV_sC (idx := 286) (rest := []) (cmpartOf s0 D cB cI cJ cD n s.2.1 v1 x5 v2 hv2) oX12_partOf (zT_mem 1733 (by decide +kernel) rfl) (zT_mem 1734 (by decide +kernel) rfl) rfl rfl (Nat.le_of_ble_eq_true rfl) ⟨by decide, by decide⟩ (by decide +kernel) ?_
      refine zV_eq (st2 := [.long v2]) rfl rfl rfl rfl ?_
      obtain rfl := Option.some.inj h
      exact zV_lret rfl (by decide +kernel) (hQ _ rfl hm hW hFr)
    · replace h := zif_pos q h
      clear q
      refine zV_blk (pc' := 129) (lo' := [(0, .ref am), (3, .int x3), (4, .int x4), (5, .int x5), (6, .int x6), (7, .int s.1), (8, .long s.2.1), (10, .int s.2.2)]) (st' := [.long (s.1 : Int32).toInt64]) [.iload 7, .i2l] (by decide +kernel) rfl ?_
      refine zV_goto (tgt := 145) (off := 16) (by decide +kernel) (by decide) ?_
      obtain rfl := Option.some.inj h
      exact zV_lret rfl (by decide +kernel) (hQ _ rfl hm hW hFr)
  · replace h := zif_neg q h
    clear q
    refine zV_blk (pc' := 74) (lo' := [(0, .ref am), (3, .int x3), (4, .int x4), (5, .int x5), (6, .int x6), (7, .int s.1), (8, .long s.2.1), (10, .int s.2.2)]) (st' := [.long (s.2.2 : Int32).toInt64, .int x6, .ref am]) [.aload_n 0, .iload 6, .iload 10, .i2l] (by decide +kernel) rfl ?_
    obtain ⟨v3, hv3, h⟩ := zbind h
    refine m_cR (idx := 353) (rest := []) hW (cmdriftOf s0 D cB cI cJ cD am a1 a2 a3 F G tp w oc n x6 (s.2.2 : Int32).toInt64 v3 hv3) oX12_driftOf rfl (zT_mem 1893 (by decide +kernel) rfl) (zT_mem 1895 (by decide +kernel) rfl) (zT_mem 73 (by decide +kernel) rfl) rfl rfl (Nat.le_of_ble_eq_true rfl) ⟨by decide, by decide⟩ (by decide +kernel) ?_
    refine zV_eq (st2 := [.long v3]) rfl rfl rfl rfl ?_
    refine zV_blk (pc' := 81) (lo' := [(11, .long v3), (0, .ref am), (3, .int x3), (4, .int x4), (5, .int x5), (6, .int x6), (7, .int s.1), (8, .long s.2.1), (10, .int s.2.2)]) (st' := [.int x4]) [.lstore 11, .iload 4] (by decide +kernel) rfl ?_
    refine zV_if_eq (tgt := 95) (off := 14) (by decide +kernel) (by decide) (fun q => ?_) (fun q => ?_)
    · replace h := zif_pos q h
      clear q
      refine zV_blk (pc' := 100) (lo' := [(11, .long v3), (0, .ref am), (3, .int x3), (4, .int x4), (5, .int x5), (6, .int x6), (7, .int s.1), (8, .long s.2.1), (10, .int s.2.2)]) (st' := [.int (lg_cmp v3 s.2.1)]) [.lload 11, .lload 8, .lcmp] (by decide +kernel) rfl ?_
      refine zV_lcmp_lt (tgt := 106) (off := 6) (by decide +kernel) (by decide) (fun q => ?_) (fun q => ?_)
      · replace h := zif_pos q h
        clear q
        refine zV_pick (lo2 := [(0, .ref am), (3, .int x3), (4, .int x4), (5, .int x5), (6, .int x6), (10, .int s.2.2), (11, .long v3)]) [1, 2, 3, 4, 5, 8, 0] rfl ?_
        exact cmextreme_106 s0 D cB cI cJ cD am a1 a2 a3 F G tp w oc n x3 x4 x5 x6 s.2.2 v3 hW hFr h hL62 hQ
      · replace h := zif_neg q h
        clear q
        refine zV_goto (tgt := 114) (off := 11) (by decide +kernel) (by decide) ?_
        refine zV_pick (lo2 := [(0, .ref am), (3, .int x3), (4, .int x4), (5, .int x5), (6, .int x6), (7, .int s.1), (8, .long s.2.1), (10, .int s.2.2)]) [1, 2, 3, 4, 5, 6, 7, 8] rfl ?_
        exact cmextreme_114 s0 D cB cI cJ cD am a1 a2 a3 F G tp w oc n x3 x4 x5 x6 s.1 s.2.1 s.2.2 hW hFr h hL62 hQ
    · replace h := zif_neg q h
      clear q
      refine zV_blk (pc' := 89) (lo' := [(11, .long v3), (0, .ref am), (3, .int x3), (4, .int x4), (5, .int x5), (6, .int x6), (7, .int s.1), (8, .long s.2.1), (10, .int s.2.2)]) (st' := [.int (lg_cmp v3 s.2.1)]) [.lload 11, .lload 8, .lcmp] (by decide +kernel) rfl ?_
      refine zV_lcmp_gt (tgt := 106) (off := 17) (by decide +kernel) (by decide) (fun q => ?_) (fun q => ?_)
      · replace h := zif_pos q h
        clear q
        refine zV_pick (lo2 := [(0, .ref am), (3, .int x3), (4, .int x4), (5, .int x5), (6, .int x6), (10, .int s.2.2), (11, .long v3)]) [1, 2, 3, 4, 5, 8, 0] rfl ?_
        exact cmextreme_106 s0 D cB cI cJ cD am a1 a2 a3 F G tp w oc n x3 x4 x5 x6 s.2.2 v3 hW hFr h hL62 hQ
      · replace h := zif_neg q h
        clear q
        refine zV_goto (tgt := 114) (off := 22) (by decide +kernel) (by decide) ?_
        refine zV_pick (lo2 := [(0, .ref am), (3, .int x3), (4, .int x4), (5, .int x5), (6, .int x6), (7, .int s.1), (8, .long s.2.1), (10, .int s.2.2)]) [1, 2, 3, 4, 5, 6, 7, 8] rfl ?_
        exact cmextreme_114 s0 D cB cI cJ cD am a1 a2 a3 F G tp w oc n x3 x4 x5 x6 s.1 s.2.1 s.2.2 hW hFr h hL62 hQ
theorem cmextreme_62L (s0 : State) (D : va_G) (cB cI cJ cD : ClassId) (am a1 a2 a3 : Nat) (F : Nat → Int32) (G : Nat → Int64) (tp : Nat → Int32) (w : Nat → Int32) (oc : Nat → Int32) (n : Nat) (x3 : Int32) (x4 : Int32) (x5 : Int32) (x6 : Int32) : ∀ (k : Nat) (s : Int32 × Int64 × Int32) {hi hm : zHp} {nx : Nat} {Q : Option Value → zHp → zHp → Nat → Prop} {hm0 : zHp} (_ : mW cB cI am a1 a2 a3 F G tp w oc hm) (_ : mFr am a1 a2 a3 hm0 hm) {x : Int64 × (Nat → Int32)} (_ : zloop (mextreme_62 n F w x3 x4 x5 x6) k s = some x) (hQ : ∀ r : Int64 × (Nat → Int32), x = r → ∀ hm', mW cB cI am a1 a2 a3 r.2 G tp w oc hm' → mFr am a1 a2 a3 hm0 hm' → Q (some (.long r.1)) hi hm' nx), zV s0 D (zty cB cI cJ cD) yX12_extreme cX12_extreme 13 (some .long) 5 120 0 0 62 [(0, .ref am), (3, .int x3), (4, .int x4), (5, .int x5), (6, .int x6), (7, .int s.1), (8, .long s.2.1), (10, .int s.2.2)] [] hi hm nx Q
  | 0, s, _, _, _, _, _, hW, hFr, _, h, _ => by cases h
  | k + 1, s, hi, hm, nx, Q, hm0, hW, hFr, x, h, hQ => by
    obtain ⟨z, hz, h1, h2⟩ := zloop_succ h
    exact cmextreme_62 s0 D cB cI cJ cD am a1 a2 a3 F G tp w oc n x3 x4 x5 x6 s z hW hFr hz (fun s' hs hm' hW' hFr' => cmextreme_62L s0 D cB cI cJ cD am a1 a2 a3 F G tp w oc n x3 x4 x5 x6 k s' hW' hFr' (h1 s' hs) hQ) (fun r hr hm' hW' hFr' => hQ r (h2 _ hr).symm hm' hW' hFr')
def mextreme (n : Nat) (F : Nat → Int32) (w : Nat → Int32) (x1 : Int32) (x2 : Int32) (x3 : Int32) (x4 : Int32) (x5 : Int32) : Option (Int64 × (Nat → Int32)) := (misThere w x1).bind (fun v1 => (if v1 = true then (misSpan x2 x3).bind (fun v2 => (if v2 = true then (misIn (x5 : Int32).toInt64 0 2).bind (fun v3 => (if v3 = true then (mbank x1).bind (fun v4 => (mdriftOf n w v4 (x2 : Int32).toInt64).bind (fun v5 => (zloop (mextreme_62 n (upd F 0 0) w x3 x4 x5 v4) n (x2, v5, (x2 + 1))))) else some ((-1000000000000000), (upd F 0 0)))) else some ((-1000000000000000), (upd F 0 0)))) else some ((-1000000000000000), (upd F 0 0))))
theorem oX12_extreme : zO yX12_extreme cX12_extreme 13 (some .long) 5 := ⟨zT_mem 1908 (by decide +kernel) rfl, zT_mem 94 (by decide +kernel) rfl, by decide +kernel, by decide +kernel, by decide +kernel⟩
set_option maxHeartbeats 4000000 in
set_option maxRecDepth 100000 in
theorem cmextreme (s0 : State) (D : va_G) (cB cI cJ cD : ClassId) (am a1 a2 a3 : Nat) (F : Nat → Int32) (G : Nat → Int64) (tp w oc : Nat → Int32) (n : Nat) (x1 : Int32) (x2 : Int32) (x3 : Int32) (x4 : Int32) (x5 : Int32) (x : Int64 × (Nat → Int32)) (h : mextreme n F w x1 x2 x3 x4 x5 = some x) : mC s0 D cB cI cJ cD am a1 a2 a3 yX12_extreme cX12_extreme 13 (some .long) 5 120 [.int x1, .int x2, .int x3, .int x4, .int x5] F G tp w oc (some (.long x.1)) x.2 G tp w oc := by
  intro hi hm nx Q hW hQ0
  have hQ : ∀ r : Int64 × (Nat → Int32), x = r → ∀ hm', mW cB cI am a1 a2 a3 r.2 G tp w oc hm' → mFr am a1 a2 a3 hm hm' → Q (some (.long r.1)) hi hm' nx := fun r hr => by subst hr; exact hQ0
  have hFr : mFr am a1 a2 a3 hm hm := mFr.rf
  clear hQ0
  refine zM_of (by decide +kernel) (Nat.le_of_ble_eq_true rfl) ?_
  unfold mextreme at h
  refine zV_eq (lo2 := [(0, .ref am), (1, .int x1), (2, .int x2), (3, .int x3), (4, .int x4), (5, .int x5)]) rfl rfl rfl rfl ?_
  refine zV_blk (pc' := 2) (lo' := [(0, .ref am), (1, .int x1), (2, .int x2), (3, .int x3), (4, .int x4), (5, .int x5)]) (st' := [.int 0, .ref am]) [.aload_n 0, .iconst 0] (by decide +kernel) rfl ?_
  refine m_put (idx := 25) (k := 0) (v := .int 0) (F' := (upd F 0 0)) (G' := G) hW m_in12 (by decide) (zT_mem 1440 (by decide +kernel) rfl) rfl rfl rfl rfl (by decide +kernel) (fun hm hW hFr2 => ?_)
  replace hFr := hFr.tr hFr2; clear hFr2
  refine zV_blk (pc' := 7) (lo' := [(0, .ref am), (1, .int x1), (2, .int x2), (3, .int x3), (4, .int x4), (5, .int x5)]) (st' := [.int x1, .ref am]) [.aload_n 0, .iload_n 1] (by decide +kernel) rfl ?_
  obtain ⟨v1, hv1, h⟩ := zbind h
  refine m_cR (idx := 273) (rest := []) hW (cmisThere s0 D cB cI cJ cD am a1 a2 a3 (upd F 0 0) G tp w oc x1 v1 hv1) oX12_isThere rfl (zT_mem 1686 (by decide +kernel) rfl) (zT_mem 1688 (by decide +kernel) rfl) (zT_mem 49 (by decide +kernel) rfl) rfl rfl (Nat.le_of_ble_eq_true rfl) ⟨by decide, by decide⟩ (by decide +kernel) ?_
  refine zV_eq (st2 := [.int (zb v1)]) rfl rfl rfl rfl ?_
  refine zV_bif_eq (tgt := 34) (off := 24) (by decide +kernel) (by decide) (fun q => ?_) (fun q => ?_)
  · replace h := zif_neg q h
    clear q
    refine zV_ldc2 (idx := 40) (v := (-1000000000000000)) (zT_mem 1728 (by decide +kernel) rfl) (by decide +kernel) ?_
    obtain rfl := Option.some.inj h
    exact zV_lret rfl (by decide +kernel) (hQ _ rfl hm hW hFr)
  · replace h := zif_pos q h
    clear q
    refine zV_blk (pc' := 15) (lo' := [(0, .ref am), (1, .int x1), (2, .int x2), (3, .int x3), (4, .int x4), (5, .int x5)]) (st' := [.int x3, .int x2]) [.iload_n 2, .iload_n 3] (by decide +kernel) rfl ?_
    obtain ⟨v2, hv2, h⟩ := zbind h
    refine zV_sC (idx := 358) (rest := []) (cmisSpan s0 D cB cI cJ cD x2 x3 v2 hv2) oX12_isSpan (zT_mem 1909 (by decide +kernel) rfl) (zT_mem 1910 (by decide +kernel) rfl) rfl rfl (Nat.le_of_ble_eq_true rfl) ⟨by decide, by decide⟩ (by decide +kernel) ?_
    refine zV_eq (st2 := [.int (zb v2)]) rfl rfl rfl rfl ?_
    refine zV_bif_eq (tgt := 34) (off := 16) (by decide +kernel) (by decide) (fun q => ?_) (fun q => ?_)
    · replace h := zif_neg q h
      clear q
      refine zV_ldc2 (idx := 40) (v := (-1000000000000000)) (zT_mem 1728 (by decide +kernel) rfl) (by decide +kernel) ?_
      obtain rfl := Option.some.inj h
      exact zV_lret rfl (by decide +kernel) (hQ _ rfl hm hW hFr)
    · replace h := zif_pos q h
      clear q
      refine zV_blk (pc' := 25) (lo' := [(0, .ref am), (1, .int x1), (2, .int x2), (3, .int x3), (4, .int x4), (5, .int x5)]) (st' := [.long 0, .long (x5 : Int32).toInt64]) [.iload 5, .i2l, .lconst 0] (by decide +kernel) rfl ?_
      refine zV_ldc2 (idx := 249) (v := 2) (zT_mem 1859 (by decide +kernel) rfl) (by decide +kernel) ?_
      obtain ⟨v3, hv3, h⟩ := zbind h
      refine zV_sC (idx := 36) (rest := []) (cmisIn s0 D cB cI cJ cD (x5 : Int32).toInt64 0 2 v3 hv3) oX12_isIn (zT_mem 1531 (by decide +kernel) rfl) (zT_mem 1532 (by decide +kernel) rfl) rfl rfl (Nat.le_of_ble_eq_true rfl) ⟨by decide, by decide⟩ (by decide +kernel) ?_
      refine zV_eq (st2 := [.int (zb v3)]) rfl rfl rfl rfl ?_
      refine zV_bif_ne (tgt := 38) (off := 7) (by decide +kernel) (by decide) (fun q => ?_) (fun q => ?_)
      · replace h := zif_pos q h
        clear q
        refine zV_blk (pc' := 39) (lo' := [(0, .ref am), (1, .int x1), (2, .int x2), (3, .int x3), (4, .int x4), (5, .int x5)]) (st' := [.int x1]) [.iload_n 1] (by decide +kernel) rfl ?_
        obtain ⟨v4, hv4, h⟩ := zbind h
        refine zV_sC (idx := 118) (rest := []) (cmbank s0 D cB cI cJ cD x1 v4 hv4) oX12_bank (zT_mem 1671 (by decide +kernel) rfl) (zT_mem 1672 (by decide +kernel) rfl) rfl rfl (Nat.le_of_ble_eq_true rfl) ⟨by decide, by decide⟩ (by decide +kernel) ?_
        refine zV_eq (st2 := [.int v4]) rfl rfl rfl rfl ?_
        refine zV_blk (pc' := 52) (lo' := [(7, .int x2), (6, .int v4), (0, .ref am), (1, .int x1), (2, .int x2), (3, .int x3), (4, .int x4), (5, .int x5)]) (st' := [.long (x2 : Int32).toInt64, .int v4, .ref am]) [.istore 6, .iload_n 2, .istore 7, .aload_n 0, .iload 6, .iload_n 2, .i2l] (by decide +kernel) rfl ?_
        obtain ⟨v5, hv5, h⟩ := zbind h
        refine m_cR (idx := 353) (rest := []) hW (cmdriftOf s0 D cB cI cJ cD am a1 a2 a3 (upd F 0 0) G tp w oc n v4 (x2 : Int32).toInt64 v5 hv5) oX12_driftOf rfl (zT_mem 1893 (by decide +kernel) rfl) (zT_mem 1895 (by decide +kernel) rfl) (zT_mem 73 (by decide +kernel) rfl) rfl rfl (Nat.le_of_ble_eq_true rfl) ⟨by decide, by decide⟩ (by decide +kernel) ?_
        refine zV_eq (st2 := [.long v5]) rfl rfl rfl rfl ?_
        refine zV_blk (pc' := 62) (lo' := [(10, .int (x2 + 1)), (8, .long v5), (7, .int x2), (6, .int v4), (0, .ref am), (1, .int x1), (2, .int x2), (3, .int x3), (4, .int x4), (5, .int x5)]) (st' := []) [.lstore 8, .iload_n 2, .iconst 1, .iadd, .istore 10] (by decide +kernel) rfl ?_
        refine zV_pick (lo2 := [(0, .ref am), (3, .int x3), (4, .int x4), (5, .int x5), (6, .int v4), (7, .int x2), (8, .long v5), (10, .int (x2 + 1))]) [4, 7, 8, 9, 3, 2, 1, 0] rfl ?_
        exact cmextreme_62L s0 D cB cI cJ cD am a1 a2 a3 (upd F 0 0) G tp w oc n x3 x4 x5 v4 n (x2, v5, (x2 + 1)) hW hFr h hQ
      · replace h := zif_neg q h
        clear q
        refine zV_ldc2 (idx := 40) (v := (-1000000000000000)) (zT_mem 1728 (by decide +kernel) rfl) (by decide +kernel) ?_
        obtain rfl := Option.some.inj h
        exact zV_lret rfl (by decide +kernel) (hQ _ rfl hm hW hFr)

