def mmoons_137 (n : Nat) (F : Nat → Int32) (w : Nat → Int32) (x3 : Int32) (x4 : Int32) (x7 : Int64) (t0 : Int64) : Option (Int64 × (Nat → Int32)) := (mmoonDay t0 (x3 : Int32).toInt64 (x4 : Int32).toInt64).bind (fun v1 => some ((v1 - x7), F))
set_option maxHeartbeats 4000000 in
set_option maxRecDepth 100000 in
theorem cmmoons_137 (s0 : State) (D : va_G) (cB cI cJ cD : ClassId) (am a1 a2 a3 : Nat) (F : Nat → Int32) (G : Nat → Int64) (tp w oc : Nat → Int32) (n : Nat) (x3 : Int32) (x4 : Int32) (x7 : Int64) (t0 : Int64) {hi hm : zHp} {nx : Nat} {Q : Option Value → zHp → zHp → Nat → Prop} {hm0 : zHp} {x : Int64 × (Nat → Int32)} (hW : mW cB cI am a1 a2 a3 F G tp w oc hm) (hFr : mFr am a1 a2 a3 hm0 hm) (h : mmoons_137 n F w x3 x4 x7 t0 = some x) (hQ : ∀ r : Int64 × (Nat → Int32), x = r → ∀ hm', mW cB cI am a1 a2 a3 r.2 G tp w oc hm' → mFr am a1 a2 a3 hm0 hm' → Q (some (.long r.1)) hi hm' nx) : zV s0 D (zty cB cI cJ cD) yX12_moons cX12_moons 13 (some .long) 4 97 0 0 137 [(3, .int x3), (4, .int x4), (7, .long x7)] [.long t0] hi hm nx Q := by
  unfold mmoons_137 at h
  refine zV_blk (pc' := 142) (lo' := [(3, .int x3), (4, .int x4), (7, .long x7)]) (st' := [.long (x4 : Int32).toInt64, .long (x3 : Int32).toInt64, .long t0]) [.iload_n 3, .i2l, .iload 4, .i2l] (by decide +kernel) rfl ?_
  obtain ⟨v1, hv1, h⟩ := zbind h
  refine zV_sC (idx := 412) (rest := []) (cmmoonDay s0 D cB cI cJ cD t0 (x3 : Int32).toInt64 (x4 : Int32).toInt64 v1 hv1) oX12_moonDay (zT_mem 2004 (by decide +kernel) rfl) (zT_mem 2005 (by decide +kernel) rfl) rfl rfl (Nat.le_of_ble_eq_true rfl) ⟨by decide, by decide⟩ (by decide +kernel) ?_
  refine zV_eq (st2 := [.long v1]) rfl rfl rfl rfl ?_
  refine zV_blk (pc' := 148) (lo' := [(3, .int x3), (4, .int x4), (7, .long x7)]) (st' := [.long (v1 - x7)]) [.lload 7, .lsub] (by decide +kernel) rfl ?_
  obtain rfl := Option.some.inj h
  exact zV_lret rfl (by decide +kernel) (hQ _ rfl hm hW hFr)
def mmoons (n : Nat) (F : Nat → Int32) (w : Nat → Int32) (x1 : Int32) (x2 : Int32) (x3 : Int32) (x4 : Int32) (x5 : Int32) : Option (Int64 × (Nat → Int32)) := (misThere w x1).bind (fun v1 => (if v1 = true then (misYear (x2 : Int32).toInt64).bind (fun v2 => (if v2 = true then (misMoon x3 x4).bind (fun v3 => (if v3 = true then (misIn (x5 : Int32).toInt64 0 2).bind (fun v4 => (if v4 = true then (mbank x1).bind (fun v5 => (mstartOf n w v5 (x2 : Int32).toInt64).bind (fun v6 => (mmoonFrom v6 (x3 : Int32).toInt64 (x4 : Int32).toInt64).bind (fun v7 => (mdaysOf n w v5 (x2 : Int32).toInt64).bind (fun v8 => (mmoonFrom (v6 + (v8 : Int32).toInt64) (x3 : Int32).toInt64 (x4 : Int32).toInt64).bind (fun v9 => (if (x5 : Int32) = (0 : Int32) then some ((v9 - v7), (upd F 0 0)) else (if (v7 : Int64) = (v9 : Int64) then some ((-1), (upd F 0 0)) else (if (x5 : Int32) = (1 : Int32) then (mmoons_137 n (upd F 0 0) w x3 x4 v6 v7) else (mmoons_137 n (upd F 0 0) w x3 x4 v6 (v9 - 1)))))))))) else some ((-1000000000000000), (upd F 0 0)))) else some ((-1000000000000000), (upd F 0 0)))) else some ((-1000000000000000), (upd F 0 0)))) else some ((-1000000000000000), (upd F 0 0))))
theorem oX12_moons : zO yX12_moons cX12_moons 13 (some .long) 5 := ⟨zT_mem 1996 (by decide +kernel) rfl, zT_mem 94 (by decide +kernel) rfl, by decide +kernel, by decide +kernel, by decide +kernel⟩
set_option maxHeartbeats 4000000 in
set_option maxRecDepth 100000 in
theorem cmmoons (s0 : State) (D : va_G) (cB cI cJ cD : ClassId) (am a1 a2 a3 : Nat) (F : Nat → Int32) (G : Nat → Int64) (tp w oc : Nat → Int32) (n : Nat) (x1 : Int32) (x2 : Int32) (x3 : Int32) (x4 : Int32) (x5 : Int32) (x : Int64 × (Nat → Int32)) (h : mmoons n F w x1 x2 x3 x4 x5 = some x) : mC s0 D cB cI cJ cD am a1 a2 a3 yX12_moons cX12_moons 13 (some .long) 4 97 [.int x1, .int x2, .int x3, .int x4, .int x5] F G tp w oc (some (.long x.1)) x.2 G tp w oc := by
  intro hi hm nx Q hW hQ0
  have hQ : ∀ r : Int64 × (Nat → Int32), x = r → ∀ hm', mW cB cI am a1 a2 a3 r.2 G tp w oc hm' → mFr am a1 a2 a3 hm hm' → Q (some (.long r.1)) hi hm' nx := fun r hr => by subst hr; exact hQ0
  have hFr : mFr am a1 a2 a3 hm hm := mFr.rf
  clear hQ0
  refine zM_of (by decide +kernel) (Nat.le_of_ble_eq_true rfl) ?_
  unfold mmoons at h
  refine zV_eq (lo2 := [(0, .ref am), (1, .int x1), (2, .int x2), (3, .int x3), (4, .int x4), (5, .int x5)]) rfl rfl rfl rfl ?_
  refine zV_blk (pc' := 2) (lo' := [(0, .ref am), (1, .int x1), (2, .int x2), (3, .int x3), (4, .int x4), (5, .int x5)]) (st' := [.int 0, .ref am]) [.aload_n 0, .iconst 0] (by decide +kernel) rfl ?_
  refine m_put (idx := 25) (k := 0) (v := .int 0) (F' := (upd F 0 0)) (G' := G) hW m_in12 (by decide) (zT_mem 1440 (by decide +kernel) rfl) rfl rfl rfl rfl (by decide +kernel) (fun hm hW hFr2 => ?_)
  replace hFr := hFr.tr hFr2; clear hFr2
  refine zV_blk (pc' := 7) (lo' := [(0, .ref am), (1, .int x1), (2, .int x2), (3, .int x3), (4, .int x4), (5, .int x5)]) (st' := [.int x1, .ref am]) [.aload_n 0, .iload_n 1] (by decide +kernel) rfl ?_
  obtain ⟨v1, hv1, h⟩ := zbind h
  refine m_cR (idx := 273) (rest := []) hW (cmisThere s0 D cB cI cJ cD am a1 a2 a3 (upd F 0 0) G tp w oc x1 v1 hv1) oX12_isThere rfl (zT_mem 1686 (by decide +kernel) rfl) (zT_mem 1688 (by decide +kernel) rfl) (zT_mem 49 (by decide +kernel) rfl) rfl rfl (Nat.le_of_ble_eq_true rfl) ⟨by decide, by decide⟩ (by decide +kernel) ?_
  refine zV_eq (st2 := [.int (zb v1)]) rfl rfl rfl rfl ?_
  refine zV_bif_eq (tgt := 43) (off := 33) (by decide +kernel) (by decide) (fun q => ?_) (fun q => ?_)
  · replace h := zif_neg q h
    clear q
    refine zV_ldc2 (idx := 40) (v := (-1000000000000000)) (zT_mem 1728 (by decide +kernel) rfl) (by decide +kernel) ?_
    obtain rfl := Option.some.inj h
    exact zV_lret rfl (by decide +kernel) (hQ _ rfl hm hW hFr)
  · replace h := zif_pos q h
    clear q
    refine zV_blk (pc' := 15) (lo' := [(0, .ref am), (1, .int x1), (2, .int x2), (3, .int x3), (4, .int x4), (5, .int x5)]) (st' := [.long (x2 : Int32).toInt64]) [.iload_n 2, .i2l] (by decide +kernel) rfl ?_
    obtain ⟨v2, hv2, h⟩ := zbind h
    refine zV_sC (idx := 255) (rest := []) (cmisYear s0 D cB cI cJ cD (x2 : Int32).toInt64 v2 hv2) oX12_isYear (zT_mem 1817 (by decide +kernel) rfl) (zT_mem 1818 (by decide +kernel) rfl) rfl rfl (Nat.le_of_ble_eq_true rfl) ⟨by decide, by decide⟩ (by decide +kernel) ?_
    refine zV_eq (st2 := [.int (zb v2)]) rfl rfl rfl rfl ?_
    refine zV_bif_eq (tgt := 43) (off := 25) (by decide +kernel) (by decide) (fun q => ?_) (fun q => ?_)
    · replace h := zif_neg q h
      clear q
      refine zV_ldc2 (idx := 40) (v := (-1000000000000000)) (zT_mem 1728 (by decide +kernel) rfl) (by decide +kernel) ?_
      obtain rfl := Option.some.inj h
      exact zV_lret rfl (by decide +kernel) (hQ _ rfl hm hW hFr)
    · replace h := zif_pos q h
      clear q
      refine zV_blk (pc' := 24) (lo' := [(0, .ref am), (1, .int x1), (2, .int x2), (3, .int x3), (4, .int x4), (5, .int x5)]) (st' := [.int x4, .int x3]) [.iload_n 3, .iload 4] (by decide +kernel) rfl ?_
      obtain ⟨v3, hv3, h⟩ := zbind h
      refine zV_sC (idx := 405) (rest := []) (cmisMoon s0 D cB cI cJ cD x3 x4 v3 hv3) oX12_isMoon (zT_mem 1997 (by decide +kernel) rfl) (zT_mem 1998 (by decide +kernel) rfl) rfl rfl (Nat.le_of_ble_eq_true rfl) ⟨by decide, by decide⟩ (by decide +kernel) ?_
      refine zV_eq (st2 := [.int (zb v3)]) rfl rfl rfl rfl ?_
      refine zV_bif_eq (tgt := 43) (off := 16) (by decide +kernel) (by decide) (fun q => ?_) (fun q => ?_)
      · replace h := zif_neg q h
        clear q
        refine zV_ldc2 (idx := 40) (v := (-1000000000000000)) (zT_mem 1728 (by decide +kernel) rfl) (by decide +kernel) ?_
        obtain rfl := Option.some.inj h
        exact zV_lret rfl (by decide +kernel) (hQ _ rfl hm hW hFr)
      · replace h := zif_pos q h
        clear q
        refine zV_blk (pc' := 34) (lo' := [(0, .ref am), (1, .int x1), (2, .int x2), (3, .int x3), (4, .int x4), (5, .int x5)]) (st' := [.long 0, .long (x5 : Int32).toInt64]) [.iload 5, .i2l, .lconst 0] (by decide +kernel) rfl ?_
        refine zV_ldc2 (idx := 249) (v := 2) (zT_mem 1859 (by decide +kernel) rfl) (by decide +kernel) ?_
        obtain ⟨v4, hv4, h⟩ := zbind h
        refine zV_sC (idx := 36) (rest := []) (cmisIn s0 D cB cI cJ cD (x5 : Int32).toInt64 0 2 v4 hv4) oX12_isIn (zT_mem 1531 (by decide +kernel) rfl) (zT_mem 1532 (by decide +kernel) rfl) rfl rfl (Nat.le_of_ble_eq_true rfl) ⟨by decide, by decide⟩ (by decide +kernel) ?_
        refine zV_eq (st2 := [.int (zb v4)]) rfl rfl rfl rfl ?_
        refine zV_bif_ne (tgt := 47) (off := 7) (by decide +kernel) (by decide) (fun q => ?_) (fun q => ?_)
        · replace h := zif_pos q h
          clear q
          refine zV_blk (pc' := 48) (lo' := [(0, .ref am), (1, .int x1), (2, .int x2), (3, .int x3), (4, .int x4), (5, .int x5)]) (st' := [.int x1]) [.iload_n 1] (by decide +kernel) rfl ?_
          obtain ⟨v5, hv5, h⟩ := zbind h
          refine zV_sC (idx := 118) (rest := []) (cmbank s0 D cB cI cJ cD x1 v5 hv5) oX12_bank (zT_mem 1671 (by decide +kernel) rfl) (zT_mem 1672 (by decide +kernel) rfl) rfl rfl (Nat.le_of_ble_eq_true rfl) ⟨by decide, by decide⟩ (by decide +kernel) ?_
          refine zV_eq (st2 := [.int v5]) rfl rfl rfl rfl ?_
          refine zV_blk (pc' := 58) (lo' := [(6, .int v5), (0, .ref am), (1, .int x1), (2, .int x2), (3, .int x3), (4, .int x4), (5, .int x5)]) (st' := [.long (x2 : Int32).toInt64, .int v5, .ref am]) [.istore 6, .aload_n 0, .iload 6, .iload_n 2, .i2l] (by decide +kernel) rfl ?_
          obtain ⟨v6, hv6, h⟩ := zbind h
          refine m_cR (idx := 244) (rest := []) hW (cmstartOf s0 D cB cI cJ cD am a1 a2 a3 (upd F 0 0) G tp w oc n v5 (x2 : Int32).toInt64 v6 hv6) oX12_startOf rfl (zT_mem 1742 (by decide +kernel) rfl) (zT_mem 1744 (by decide +kernel) rfl) (zT_mem 56 (by decide +kernel) rfl) rfl rfl (Nat.le_of_ble_eq_true rfl) ⟨by decide, by decide⟩ (by decide +kernel) ?_
          refine zV_eq (st2 := [.long v6]) rfl rfl rfl rfl ?_
          refine zV_blk (pc' := 70) (lo' := [(7, .long v6), (6, .int v5), (0, .ref am), (1, .int x1), (2, .int x2), (3, .int x3), (4, .int x4), (5, .int x5)]) (st' := [.long (x4 : Int32).toInt64, .long (x3 : Int32).toInt64, .long v6]) [.lstore 7, .lload 7, .iload_n 3, .i2l, .iload 4, .i2l] (by decide +kernel) rfl ?_
          obtain ⟨v7, hv7, h⟩ := zbind h
          refine zV_sC (idx := 408) (rest := []) (cmmoonFrom s0 D cB cI cJ cD v6 (x3 : Int32).toInt64 (x4 : Int32).toInt64 v7 hv7) oX12_moonFrom (zT_mem 2001 (by decide +kernel) rfl) (zT_mem 2002 (by decide +kernel) rfl) rfl rfl (Nat.le_of_ble_eq_true rfl) ⟨by decide, by decide⟩ (by decide +kernel) ?_
          refine zV_eq (st2 := [.long v7]) rfl rfl rfl rfl ?_
          refine zV_blk (pc' := 82) (lo' := [(9, .long v7), (7, .long v6), (6, .int v5), (0, .ref am), (1, .int x1), (2, .int x2), (3, .int x3), (4, .int x4), (5, .int x5)]) (st' := [.long (x2 : Int32).toInt64, .int v5, .ref am, .long v6]) [.lstore 9, .lload 7, .aload_n 0, .iload 6, .iload_n 2, .i2l] (by decide +kernel) rfl ?_
          obtain ⟨v8, hv8, h⟩ := zbind h
          refine m_cR (idx := 325) (rest := [.long v6]) hW (cmdaysOf s0 D cB cI cJ cD am a1 a2 a3 (upd F 0 0) G tp w oc n v5 (x2 : Int32).toInt64 v8 hv8) oX12_daysOf rfl (zT_mem 1837 (by decide +kernel) rfl) (zT_mem 1839 (by decide +kernel) rfl) (zT_mem 65 (by decide +kernel) rfl) rfl rfl (Nat.le_of_ble_eq_true rfl) ⟨by decide, by decide⟩ (by decide +kernel) ?_
          refine zV_eq (st2 := [.int v8, .long v6]) rfl rfl rfl rfl ?_
          refine zV_blk (pc' := 92) (lo' := [(9, .long v7), (7, .long v6), (6, .int v5), (0, .ref am), (1, .int x1), (2, .int x2), (3, .int x3), (4, .int x4), (5, .int x5)]) (st' := [.long (x4 : Int32).toInt64, .long (x3 : Int32).toInt64, .long (v6 + (v8 : Int32).toInt64)]) [.i2l, .ladd, .iload_n 3, .i2l, .iload 4, .i2l] (by decide +kernel) rfl ?_
          obtain ⟨v9, hv9, h⟩ := zbind h
          refine zV_sC (idx := 408) (rest := []) (cmmoonFrom s0 D cB cI cJ cD (v6 + (v8 : Int32).toInt64) (x3 : Int32).toInt64 (x4 : Int32).toInt64 v9 hv9) oX12_moonFrom (zT_mem 2001 (by decide +kernel) rfl) (zT_mem 2002 (by decide +kernel) rfl) rfl rfl (Nat.le_of_ble_eq_true rfl) ⟨by decide, by decide⟩ (by decide +kernel) ?_
          refine zV_eq (st2 := [.long v9]) rfl rfl rfl rfl ?_
          refine zV_blk (pc' := 99) (lo' := [(11, .long v9), (9, .long v7), (7, .long v6), (6, .int v5), (0, .ref am), (1, .int x1), (2, .int x2), (3, .int x3), (4, .int x4), (5, .int x5)]) (st' := [.int x5]) [.lstore 11, .iload 5] (by decide +kernel) rfl ?_
          refine zV_if_ne (tgt := 108) (off := 9) (by decide +kernel) (by decide) (fun q => ?_) (fun q => ?_)
          · replace h := zif_neg q h
            clear q
            refine zV_blk (pc' := 113) (lo' := [(11, .long v9), (9, .long v7), (7, .long v6), (6, .int v5), (0, .ref am), (1, .int x1), (2, .int x2), (3, .int x3), (4, .int x4), (5, .int x5)]) (st' := [.int (lg_cmp v7 v9)]) [.lload 9, .lload 11, .lcmp] (by decide +kernel) rfl ?_
            refine zV_lcmp_ne (tgt := 122) (off := 9) (by decide +kernel) (by decide) (fun q => ?_) (fun q => ?_)
            · replace h := zif_neg q h
              clear q
              refine zV_blk (pc' := 125) (lo' := [(11, .long v9), (9, .long v7), (7, .long v6), (6, .int v5), (0, .ref am), (1, .int x1), (2, .int x2), (3, .int x3), (4, .int x4), (5, .int x5)]) (st' := [.int 1, .int x5]) [.iload 5, .iconst 1] (by decide +kernel) rfl ?_
              refine zV_icmp_ne (tgt := 133) (off := 8) (by decide +kernel) (by decide) (fun q => ?_) (fun q => ?_)
              · replace h := zif_neg q h
                clear q
                refine zV_blk (pc' := 137) (lo' := [(11, .long v9), (9, .long v7), (7, .long v6), (6, .int v5), (0, .ref am), (1, .int x1), (2, .int x2), (3, .int x3), (4, .int x4), (5, .int x5)]) (st' := [.long (v9 - 1)]) [.lload 11, .lconst 1, .lsub] (by decide +kernel) rfl ?_
                refine zV_pick (lo2 := [(3, .int x3), (4, .int x4), (7, .long v6)]) [7, 8, 2] rfl ?_
                exact cmmoons_137 s0 D cB cI cJ cD am a1 a2 a3 (upd F 0 0) G tp w oc n x3 x4 v6 (v9 - 1) hW hFr h hQ
              · replace h := zif_pos q h
                clear q
                refine zV_blk (pc' := 130) (lo' := [(11, .long v9), (9, .long v7), (7, .long v6), (6, .int v5), (0, .ref am), (1, .int x1), (2, .int x2), (3, .int x3), (4, .int x4), (5, .int x5)]) (st' := [.long v7]) [.lload 9] (by decide +kernel) rfl ?_
                refine zV_goto (tgt := 137) (off := 7) (by decide +kernel) (by decide) ?_
                refine zV_pick (lo2 := [(3, .int x3), (4, .int x4), (7, .long v6)]) [7, 8, 2] rfl ?_
                exact cmmoons_137 s0 D cB cI cJ cD am a1 a2 a3 (upd F 0 0) G tp w oc n x3 x4 v6 v7 hW hFr h hQ
            · replace h := zif_pos q h
              clear q
              refine zV_ldc2 (idx := 98) (v := (-1)) (zT_mem 1572 (by decide +kernel) rfl) (by decide +kernel) ?_
              refine zV_goto (tgt := 148) (off := 29) (by decide +kernel) (by decide) ?_
              obtain rfl := Option.some.inj h
              exact zV_lret rfl (by decide +kernel) (hQ _ rfl hm hW hFr)
          · replace h := zif_pos q h
            clear q
            refine zV_blk (pc' := 107) (lo' := [(11, .long v9), (9, .long v7), (7, .long v6), (6, .int v5), (0, .ref am), (1, .int x1), (2, .int x2), (3, .int x3), (4, .int x4), (5, .int x5)]) (st' := [.long (v9 - v7)]) [.lload 11, .lload 9, .lsub] (by decide +kernel) rfl ?_
            obtain rfl := Option.some.inj h
            exact zV_lret rfl (by decide +kernel) (hQ _ rfl hm hW hFr)
        · replace h := zif_neg q h
          clear q
          refine zV_ldc2 (idx := 40) (v := (-1000000000000000)) (zT_mem 1728 (by decide +kernel) rfl) (by decide +kernel) ?_
          obtain rfl := Option.some.inj h
          exact zV_lret rfl (by decide +kernel) (hQ _ rfl hm hW hFr)

def mageOf (x0 : Int64) (x2 : Int64) (x4 : Int64) : Option (Int64) := (mmoonFrom (x0 + 1) x2 x4).bind (fun v1 => (mmoonDay (v1 - 1) x2 x4).bind (fun v2 => some (x0 - v2)))
theorem oX12_ageOf : zO yX12_ageOf cX12_ageOf 6 (some .long) 3 := ⟨zT_mem 2013 (by decide +kernel) rfl, zT_mem 94 (by decide +kernel) rfl, by decide +kernel, by decide +kernel, by decide +kernel⟩
set_option maxHeartbeats 4000000 in
set_option maxRecDepth 100000 in
theorem cmageOf (s0 : State) (D : va_G) (cB cI cJ cD : ClassId) (x0 : Int64) (x2 : Int64) (x4 : Int64) (x : Int64) (h : mageOf x0 x2 x4 = some x) : sC s0 D (zty cB cI cJ cD) yX12_ageOf cX12_ageOf 6 (some .long) 2 50 [.long x0, .long x2, .long x4] (.long x) := by
  intro hi hm nx Q hQ0
  have hQ : ∀ r : Int64, x = r → Q (some (.long r)) hi hm nx := fun r hr => by subst hr; exact hQ0
  refine zM_of (by decide +kernel) (Nat.le_of_ble_eq_true rfl) ?_
  unfold mageOf at h
  refine zV_eq (lo2 := [(0, .long x0), (2, .long x2), (4, .long x4)]) rfl rfl rfl rfl ?_
  refine zV_blk (pc' := 7) (lo' := [(0, .long x0), (2, .long x2), (4, .long x4)]) (st' := [.long x4, .long x2, .long (x0 + 1), .long x0]) [.lload_n 0, .lload_n 0, .lconst 1, .ladd, .lload_n 2, .lload 4] (by decide +kernel) rfl ?_
  obtain ⟨v1, hv1, h⟩ := zbind h
  refine zV_sC (idx := 408) (rest := [.long x0]) (cmmoonFrom s0 D cB cI cJ cD (x0 + 1) x2 x4 v1 hv1) oX12_moonFrom (zT_mem 2001 (by decide +kernel) rfl) (zT_mem 2002 (by decide +kernel) rfl) rfl rfl (Nat.le_of_ble_eq_true rfl) ⟨by decide, by decide⟩ (by decide +kernel) ?_
  refine zV_eq (st2 := [.long v1, .long x0]) rfl rfl rfl rfl ?_
  refine zV_blk (pc' := 15) (lo' := [(0, .long x0), (2, .long x2), (4, .long x4)]) (st' := [.long x4, .long x2, .long (v1 - 1), .long x0]) [.lconst 1, .lsub, .lload_n 2, .lload 4] (by decide +kernel) rfl ?_
  obtain ⟨v2, hv2, h⟩ := zbind h
  refine zV_sC (idx := 412) (rest := [.long x0]) (cmmoonDay s0 D cB cI cJ cD (v1 - 1) x2 x4 v2 hv2) oX12_moonDay (zT_mem 2004 (by decide +kernel) rfl) (zT_mem 2005 (by decide +kernel) rfl) rfl rfl (Nat.le_of_ble_eq_true rfl) ⟨by decide, by decide⟩ (by decide +kernel) ?_
  refine zV_eq (st2 := [.long v2, .long x0]) rfl rfl rfl rfl ?_
  refine zV_blk (pc' := 19) (lo' := [(0, .long x0), (2, .long x2), (4, .long x4)]) (st' := [.long (x0 - v2)]) [.lsub] (by decide +kernel) rfl ?_
  obtain rfl := Option.some.inj h
  exact zV_lret rfl (by decide +kernel) (hQ _ rfl)

def mage (n : Nat) (F : Nat → Int32) (w : Nat → Int32) (x1 : Int32) (x2 : Int64) (x4 : Int32) (x5 : Int32) : Option (Int64 × (Nat → Int32)) := (misThere w x1).bind (fun v1 => (if v1 = true then (mbank x1).bind (fun v2 => (misDay n w v2 x2).bind (fun v3 => (if v3 = true then (misMoon x4 x5).bind (fun v4 => (if v4 = true then (mageOf x2 (x4 : Int32).toInt64 (x5 : Int32).toInt64).bind (fun v5 => some (v5, (upd F 0 0))) else some ((-1000000000000000), (upd F 0 0)))) else some ((-1000000000000000), (upd F 0 0))))) else some ((-1000000000000000), (upd F 0 0))))
theorem oX12_age : zO yX12_age cX12_age 6 (some .long) 4 := ⟨zT_mem 2010 (by decide +kernel) rfl, zT_mem 94 (by decide +kernel) rfl, by decide +kernel, by decide +kernel, by decide +kernel⟩
set_option maxHeartbeats 4000000 in
set_option maxRecDepth 100000 in
theorem cmage (s0 : State) (D : va_G) (cB cI cJ cD : ClassId) (am a1 a2 a3 : Nat) (F : Nat → Int32) (G : Nat → Int64) (tp w oc : Nat → Int32) (n : Nat) (x1 : Int32) (x2 : Int64) (x4 : Int32) (x5 : Int32) (x : Int64 × (Nat → Int32)) (h : mage n F w x1 x2 x4 x5 = some x) : mC s0 D cB cI cJ cD am a1 a2 a3 yX12_age cX12_age 6 (some .long) 5 120 [.int x1, .long x2, .int x4, .int x5] F G tp w oc (some (.long x.1)) x.2 G tp w oc := by
  intro hi hm nx Q hW hQ0
  have hQ : ∀ r : Int64 × (Nat → Int32), x = r → ∀ hm', mW cB cI am a1 a2 a3 r.2 G tp w oc hm' → mFr am a1 a2 a3 hm hm' → Q (some (.long r.1)) hi hm' nx := fun r hr => by subst hr; exact hQ0
  have hFr : mFr am a1 a2 a3 hm hm := mFr.rf
  clear hQ0
  refine zM_of (by decide +kernel) (Nat.le_of_ble_eq_true rfl) ?_
  unfold mage at h
  refine zV_eq (lo2 := [(0, .ref am), (1, .int x1), (2, .long x2), (4, .int x4), (5, .int x5)]) rfl rfl rfl rfl ?_
  refine zV_blk (pc' := 2) (lo' := [(0, .ref am), (1, .int x1), (2, .long x2), (4, .int x4), (5, .int x5)]) (st' := [.int 0, .ref am]) [.aload_n 0, .iconst 0] (by decide +kernel) rfl ?_
  refine m_put (idx := 25) (k := 0) (v := .int 0) (F' := (upd F 0 0)) (G' := G) hW m_in12 (by decide) (zT_mem 1440 (by decide +kernel) rfl) rfl rfl rfl rfl (by decide +kernel) (fun hm hW hFr2 => ?_)
  replace hFr := hFr.tr hFr2; clear hFr2
  refine zV_blk (pc' := 7) (lo' := [(0, .ref am), (1, .int x1), (2, .long x2), (4, .int x4), (5, .int x5)]) (st' := [.int x1, .ref am]) [.aload_n 0, .iload_n 1] (by decide +kernel) rfl ?_
  obtain ⟨v1, hv1, h⟩ := zbind h
  refine m_cR (idx := 273) (rest := []) hW (cmisThere s0 D cB cI cJ cD am a1 a2 a3 (upd F 0 0) G tp w oc x1 v1 hv1) oX12_isThere rfl (zT_mem 1686 (by decide +kernel) rfl) (zT_mem 1688 (by decide +kernel) rfl) (zT_mem 49 (by decide +kernel) rfl) rfl rfl (Nat.le_of_ble_eq_true rfl) ⟨by decide, by decide⟩ (by decide +kernel) ?_
  refine zV_eq (st2 := [.int (zb v1)]) rfl rfl rfl rfl ?_
  refine zV_bif_eq (tgt := 48) (off := 38) (by decide +kernel) (by decide) (fun q => ?_) (fun q => ?_)
  · replace h := zif_neg q h
    clear q
    refine zV_ldc2 (idx := 40) (v := (-1000000000000000)) (zT_mem 1728 (by decide +kernel) rfl) (by decide +kernel) ?_
    obtain rfl := Option.some.inj h
    exact zV_lret rfl (by decide +kernel) (hQ _ rfl hm hW hFr)
  · replace h := zif_pos q h
    clear q
    refine zV_blk (pc' := 15) (lo' := [(0, .ref am), (1, .int x1), (2, .long x2), (4, .int x4), (5, .int x5)]) (st' := [.int x1, .ref am]) [.aload_n 0, .iload_n 1] (by decide +kernel) rfl ?_
    obtain ⟨v2, hv2, h⟩ := zbind h
    refine zV_sC (idx := 118) (rest := [.ref am]) (cmbank s0 D cB cI cJ cD x1 v2 hv2) oX12_bank (zT_mem 1671 (by decide +kernel) rfl) (zT_mem 1672 (by decide +kernel) rfl) rfl rfl (Nat.le_of_ble_eq_true rfl) ⟨by decide, by decide⟩ (by decide +kernel) ?_
    refine zV_eq (st2 := [.int v2, .ref am]) rfl rfl rfl rfl ?_
    refine zV_blk (pc' := 19) (lo' := [(0, .ref am), (1, .int x1), (2, .long x2), (4, .int x4), (5, .int x5)]) (st' := [.long x2, .int v2, .ref am]) [.lload_n 2] (by decide +kernel) rfl ?_
    obtain ⟨v3, hv3, h⟩ := zbind h
    refine m_cR (idx := 328) (rest := []) hW (cmisDay s0 D cB cI cJ cD am a1 a2 a3 (upd F 0 0) G tp w oc n v2 x2 v3 hv3) oX12_isDay rfl (zT_mem 1845 (by decide +kernel) rfl) (zT_mem 1847 (by decide +kernel) rfl) (zT_mem 66 (by decide +kernel) rfl) rfl rfl (Nat.le_of_ble_eq_true rfl) ⟨by decide, by decide⟩ (by decide +kernel) ?_
    refine zV_eq (st2 := [.int (zb v3)]) rfl rfl rfl rfl ?_
    refine zV_bif_eq (tgt := 48) (off := 26) (by decide +kernel) (by decide) (fun q => ?_) (fun q => ?_)
    · replace h := zif_neg q h
      clear q
      refine zV_ldc2 (idx := 40) (v := (-1000000000000000)) (zT_mem 1728 (by decide +kernel) rfl) (by decide +kernel) ?_
      obtain rfl := Option.some.inj h
      exact zV_lret rfl (by decide +kernel) (hQ _ rfl hm hW hFr)
    · replace h := zif_pos q h
      clear q
      refine zV_blk (pc' := 29) (lo' := [(0, .ref am), (1, .int x1), (2, .long x2), (4, .int x4), (5, .int x5)]) (st' := [.int x5, .int x4]) [.iload 4, .iload 5] (by decide +kernel) rfl ?_
      obtain ⟨v4, hv4, h⟩ := zbind h
      refine zV_sC (idx := 405) (rest := []) (cmisMoon s0 D cB cI cJ cD x4 x5 v4 hv4) oX12_isMoon (zT_mem 1997 (by decide +kernel) rfl) (zT_mem 1998 (by decide +kernel) rfl) rfl rfl (Nat.le_of_ble_eq_true rfl) ⟨by decide, by decide⟩ (by decide +kernel) ?_
      refine zV_eq (st2 := [.int (zb v4)]) rfl rfl rfl rfl ?_
      refine zV_bif_eq (tgt := 48) (off := 16) (by decide +kernel) (by decide) (fun q => ?_) (fun q => ?_)
      · replace h := zif_neg q h
        clear q
        refine zV_ldc2 (idx := 40) (v := (-1000000000000000)) (zT_mem 1728 (by decide +kernel) rfl) (by decide +kernel) ?_
        obtain rfl := Option.some.inj h
        exact zV_lret rfl (by decide +kernel) (hQ _ rfl hm hW hFr)
      · replace h := zif_pos q h
        clear q
        refine zV_blk (pc' := 42) (lo' := [(0, .ref am), (1, .int x1), (2, .long x2), (4, .int x4), (5, .int x5)]) (st' := [.long (x5 : Int32).toInt64, .long (x4 : Int32).toInt64, .long x2]) [.lload_n 2, .iload 4, .i2l, .iload 5, .i2l] (by decide +kernel) rfl ?_
        obtain ⟨v5, hv5, h⟩ := zbind h
        refine zV_sC (idx := 415) (rest := []) (cmageOf s0 D cB cI cJ cD x2 (x4 : Int32).toInt64 (x5 : Int32).toInt64 v5 hv5) oX12_ageOf (zT_mem 2011 (by decide +kernel) rfl) (zT_mem 2012 (by decide +kernel) rfl) rfl rfl (Nat.le_of_ble_eq_true rfl) ⟨by decide, by decide⟩ (by decide +kernel) ?_
        refine zV_eq (st2 := [.long v5]) rfl rfl rfl rfl ?_
        refine zV_goto (tgt := 51) (off := 6) (by decide +kernel) (by decide) ?_
        obtain rfl := Option.some.inj h
        exact zV_lret rfl (by decide +kernel) (hQ _ rfl hm hW hFr)

def mmeets_117 (n : Nat) (F : Nat → Int32) (w : Nat → Int32) (x2 : Int32) (x3 : Int32) (x4 : Int32) (x5 : Int32) (x6 : Int32) (x7 : Int32) (x8 : Int32) (x9 : Int32) : Option ((Int32) ⊕ (Int64 × (Nat → Int32))) := some (.inl (x9 + 1))
set_option maxHeartbeats 4000000 in
set_option maxRecDepth 100000 in
theorem cmmeets_117 (s0 : State) (D : va_G) (cB cI cJ cD : ClassId) (am a1 a2 a3 : Nat) (F : Nat → Int32) (G : Nat → Int64) (tp w oc : Nat → Int32) (n : Nat) (x2 : Int32) (x3 : Int32) (x4 : Int32) (x5 : Int32) (x6 : Int32) (x7 : Int32) (x8 : Int32) (x9 : Int32) {hi hm : zHp} {nx : Nat} {Q : Option Value → zHp → zHp → Nat → Prop} {hm0 : zHp} {x : (Int32) ⊕ (Int64 × (Nat → Int32))} (hW : mW cB cI am a1 a2 a3 F G tp w oc hm) (hFr : mFr am a1 a2 a3 hm0 hm) (h : mmeets_117 n F w x2 x3 x4 x5 x6 x7 x8 x9 = some x) (hL62 : ∀ s : Int32, x = (.inl s) → ∀ hm', mW cB cI am a1 a2 a3 F G tp w oc hm' → mFr am a1 a2 a3 hm0 hm' → zV s0 D (zty cB cI cJ cD) yX12_meets cX12_meets 10 (some .long) 5 124 0 0 62 [(0, .ref am), (2, .int x2), (3, .int x3), (4, .int x4), (5, .int x5), (6, .int x6), (7, .int x7), (8, .int x8), (9, .int s)] [] hi hm' nx Q) (hQ : ∀ r : Int64 × (Nat → Int32), x = (.inr r) → ∀ hm', mW cB cI am a1 a2 a3 r.2 G tp w oc hm' → mFr am a1 a2 a3 hm0 hm' → Q (some (.long r.1)) hi hm' nx) : zV s0 D (zty cB cI cJ cD) yX12_meets cX12_meets 10 (some .long) 5 124 0 0 117 [(0, .ref am), (2, .int x2), (3, .int x3), (4, .int x4), (5, .int x5), (6, .int x6), (7, .int x7), (8, .int x8), (9, .int x9)] [] hi hm nx Q := by
  unfold mmeets_117 at h
  refine zV_blk (pc' := 120) (lo' := [(9, .int (x9 + 1)), (0, .ref am), (2, .int x2), (3, .int x3), (4, .int x4), (5, .int x5), (6, .int x6), (7, .int x7), (8, .int x8)]) (st' := []) [.iinc 9 1] (by decide +kernel) rfl ?_
  refine zV_goto (tgt := 62) (off := -58) (by decide +kernel) (by decide) ?_
  obtain rfl := Option.some.inj h
  refine zV_pick (lo2 := [(0, .ref am), (2, .int x2), (3, .int x3), (4, .int x4), (5, .int x5), (6, .int x6), (7, .int x7), (8, .int x8), (9, .int (x9 + 1))]) [1, 2, 3, 4, 5, 6, 7, 8, 0] rfl ?_
  exact hL62 _ rfl hm hW hFr
def mmeets_62 (n : Nat) (F : Nat → Int32) (w : Nat → Int32) (x2 : Int32) (x3 : Int32) (x4 : Int32) (x5 : Int32) (x6 : Int32) (x7 : Int32) (x8 : Int32) (s : Int32) : Option ((Int32) ⊕ (Int64 × (Nat → Int32))) := (if ((x2 + x3) : Int32) ≤ (s : Int32) then some (.inr ((-1000000000000000), F)) else (misDate n w x8 (s : Int32).toInt64 x4 x5).bind (fun v1 => (if v1 = true then (mnumberOf n w x8 (s : Int32).toInt64 x4 x5).bind (fun v2 => (mageOf v2 (x6 : Int32).toInt64 (x7 : Int32).toInt64).bind (fun v3 => (if (v3 : Int64) = (0 : Int64) then some (.inr ((s : Int32).toInt64, F)) else (mmeets_117 n F w x2 x3 x4 x5 x6 x7 x8 s)))) else (mmeets_117 n F w x2 x3 x4 x5 x6 x7 x8 s))))
set_option maxHeartbeats 4000000 in
set_option maxRecDepth 100000 in
theorem cmmeets_62 (s0 : State) (D : va_G) (cB cI cJ cD : ClassId) (am a1 a2 a3 : Nat) (F : Nat → Int32) (G : Nat → Int64) (tp : Nat → Int32) (w : Nat → Int32) (oc : Nat → Int32) (n : Nat) (x2 : Int32) (x3 : Int32) (x4 : Int32) (x5 : Int32) (x6 : Int32) (x7 : Int32) (x8 : Int32) (s : Int32) (x : (Int32) ⊕ (Int64 × (Nat → Int32))) {hi hm : zHp} {nx : Nat} {Q : Option Value → zHp → zHp → Nat → Prop} {hm0 : zHp} (hW : mW cB cI am a1 a2 a3 F G tp w oc hm) (hFr : mFr am a1 a2 a3 hm0 hm) (h : mmeets_62 n F w x2 x3 x4 x5 x6 x7 x8 s = some x) (hL62 : ∀ s : Int32, x = (.inl s) → ∀ hm', mW cB cI am a1 a2 a3 F G tp w oc hm' → mFr am a1 a2 a3 hm0 hm' → zV s0 D (zty cB cI cJ cD) yX12_meets cX12_meets 10 (some .long) 5 124 0 0 62 [(0, .ref am), (2, .int x2), (3, .int x3), (4, .int x4), (5, .int x5), (6, .int x6), (7, .int x7), (8, .int x8), (9, .int s)] [] hi hm' nx Q) (hQ : ∀ r : Int64 × (Nat → Int32), x = (.inr r) → ∀ hm', mW cB cI am a1 a2 a3 r.2 G tp w oc hm' → mFr am a1 a2 a3 hm0 hm' → Q (some (.long r.1)) hi hm' nx) : zV s0 D (zty cB cI cJ cD) yX12_meets cX12_meets 10 (some .long) 5 124 0 0 62 [(0, .ref am), (2, .int x2), (3, .int x3), (4, .int x4), (5, .int x5), (6, .int x6), (7, .int x7), (8, .int x8), (9, .int s)] [] hi hm nx Q := by
  unfold mmeets_62 at h
  refine zV_blk (pc' := 67) (lo' := [(0, .ref am), (2, .int x2), (3, .int x3), (4, .int x4), (5, .int x5), (6, .int x6), (7, .int x7), (8, .int x8), (9, .int s)]) (st' := [.int (x2 + x3), .int s]) [.iload 9, .iload_n 2, .iload_n 3, .iadd] (by decide +kernel) rfl ?_
  refine zV_icmp_ge (tgt := 123) (off := 56) (by decide +kernel) (by decide) (fun q => ?_) (fun q => ?_)
  · replace h := zif_pos q h
    clear q
    refine zV_ldc2 (idx := 40) (v := (-1000000000000000)) (zT_mem 1728 (by decide +kernel) rfl) (by decide +kernel) ?_
    obtain rfl := Option.some.inj h
    exact zV_lret rfl (by decide +kernel) (hQ _ rfl hm hW hFr)
  · replace h := zif_neg q h
    clear q
    refine zV_blk (pc' := 80) (lo' := [(0, .ref am), (2, .int x2), (3, .int x3), (4, .int x4), (5, .int x5), (6, .int x6), (7, .int x7), (8, .int x8), (9, .int s)]) (st' := [.int x5, .int x4, .long (s : Int32).toInt64, .int x8, .ref am]) [.aload_n 0, .iload 8, .iload 9, .i2l, .iload 4, .iload 5] (by decide +kernel) rfl ?_
    obtain ⟨v1, hv1, h⟩ := zbind h
    refine m_cR (idx := 337) (rest := []) hW (cmisDate s0 D cB cI cJ cD am a1 a2 a3 F G tp w oc n x8 (s : Int32).toInt64 x4 x5 v1 hv1) oX12_isDate rfl (zT_mem 1868 (by decide +kernel) rfl) (zT_mem 1870 (by decide +kernel) rfl) (zT_mem 70 (by decide +kernel) rfl) rfl rfl (Nat.le_of_ble_eq_true rfl) ⟨by decide, by decide⟩ (by decide +kernel) ?_
    refine zV_eq (st2 := [.int (zb v1)]) rfl rfl rfl rfl ?_
    refine zV_bif_eq (tgt := 117) (off := 34) (by decide +kernel) (by decide) (fun q => ?_) (fun q => ?_)
    · replace h := zif_neg q h
      clear q
      refine zV_pick (lo2 := [(0, .ref am), (2, .int x2), (3, .int x3), (4, .int x4), (5, .int x5), (6, .int x6), (7, .int x7), (8, .int x8), (9, .int s)]) [0, 1, 2, 3, 4, 5, 6, 7, 8] rfl ?_
      exact cmmeets_117 s0 D cB cI cJ cD am a1 a2 a3 F G tp w oc n x2 x3 x4 x5 x6 x7 x8 s hW hFr h hL62 hQ
    · replace h := zif_pos q h
      clear q
      refine zV_blk (pc' := 96) (lo' := [(0, .ref am), (2, .int x2), (3, .int x3), (4, .int x4), (5, .int x5), (6, .int x6), (7, .int x7), (8, .int x8), (9, .int s)]) (st' := [.int x5, .int x4, .long (s : Int32).toInt64, .int x8, .ref am]) [.aload_n 0, .iload 8, .iload 9, .i2l, .iload 4, .iload 5] (by decide +kernel) rfl ?_
      obtain ⟨v2, hv2, h⟩ := zbind h
      refine m_cR (idx := 341) (rest := []) hW (cmnumberOf s0 D cB cI cJ cD am a1 a2 a3 F G tp w oc n x8 (s : Int32).toInt64 x4 x5 v2 hv2) oX12_numberOf rfl (zT_mem 1872 (by decide +kernel) rfl) (zT_mem 1874 (by decide +kernel) rfl) (zT_mem 71 (by decide +kernel) rfl) rfl rfl (Nat.le_of_ble_eq_true rfl) ⟨by decide, by decide⟩ (by decide +kernel) ?_
      refine zV_eq (st2 := [.long v2]) rfl rfl rfl rfl ?_
      refine zV_blk (pc' := 105) (lo' := [(0, .ref am), (2, .int x2), (3, .int x3), (4, .int x4), (5, .int x5), (6, .int x6), (7, .int x7), (8, .int x8), (9, .int s)]) (st' := [.long (x7 : Int32).toInt64, .long (x6 : Int32).toInt64, .long v2]) [.iload 6, .i2l, .iload 7, .i2l] (by decide +kernel) rfl ?_
      obtain ⟨v3, hv3, h⟩ := zbind h
      refine zV_sC (idx := 415) (rest := []) (cmageOf s0 D cB cI cJ cD v2 (x6 : Int32).toInt64 (x7 : Int32).toInt64 v3 hv3) oX12_ageOf (zT_mem 2011 (by decide +kernel) rfl) (zT_mem 2012 (by decide +kernel) rfl) rfl rfl (Nat.le_of_ble_eq_true rfl) ⟨by decide, by decide⟩ (by decide +kernel) ?_
      refine zV_eq (st2 := [.long v3]) rfl rfl rfl rfl ?_
      refine zV_blk (pc' := 110) (lo' := [(0, .ref am), (2, .int x2), (3, .int x3), (4, .int x4), (5, .int x5), (6, .int x6), (7, .int x7), (8, .int x8), (9, .int s)]) (st' := [.int (lg_cmp v3 0)]) [.lconst 0, .lcmp] (by decide +kernel) rfl ?_
      refine zV_lcmp_ne (tgt := 117) (off := 7) (by decide +kernel) (by decide) (fun q => ?_) (fun q => ?_)
      · replace h := zif_neg q h
        clear q
        refine zV_pick (lo2 := [(0, .ref am), (2, .int x2), (3, .int x3), (4, .int x4), (5, .int x5), (6, .int x6), (7, .int x7), (8, .int x8), (9, .int s)]) [0, 1, 2, 3, 4, 5, 6, 7, 8] rfl ?_
        exact cmmeets_117 s0 D cB cI cJ cD am a1 a2 a3 F G tp w oc n x2 x3 x4 x5 x6 x7 x8 s hW hFr h hL62 hQ
      · replace h := zif_pos q h
        clear q
        refine zV_blk (pc' := 116) (lo' := [(0, .ref am), (2, .int x2), (3, .int x3), (4, .int x4), (5, .int x5), (6, .int x6), (7, .int x7), (8, .int x8), (9, .int s)]) (st' := [.long (s : Int32).toInt64]) [.iload 9, .i2l] (by decide +kernel) rfl ?_
        obtain rfl := Option.some.inj h
        exact zV_lret rfl (by decide +kernel) (hQ _ rfl hm hW hFr)
theorem cmmeets_62L (s0 : State) (D : va_G) (cB cI cJ cD : ClassId) (am a1 a2 a3 : Nat) (F : Nat → Int32) (G : Nat → Int64) (tp : Nat → Int32) (w : Nat → Int32) (oc : Nat → Int32) (n : Nat) (x2 : Int32) (x3 : Int32) (x4 : Int32) (x5 : Int32) (x6 : Int32) (x7 : Int32) (x8 : Int32) : ∀ (k : Nat) (s : Int32) {hi hm : zHp} {nx : Nat} {Q : Option Value → zHp → zHp → Nat → Prop} {hm0 : zHp} (_ : mW cB cI am a1 a2 a3 F G tp w oc hm) (_ : mFr am a1 a2 a3 hm0 hm) {x : Int64 × (Nat → Int32)} (_ : zloop (mmeets_62 n F w x2 x3 x4 x5 x6 x7 x8) k s = some x) (hQ : ∀ r : Int64 × (Nat → Int32), x = r → ∀ hm', mW cB cI am a1 a2 a3 r.2 G tp w oc hm' → mFr am a1 a2 a3 hm0 hm' → Q (some (.long r.1)) hi hm' nx), zV s0 D (zty cB cI cJ cD) yX12_meets cX12_meets 10 (some .long) 5 124 0 0 62 [(0, .ref am), (2, .int x2), (3, .int x3), (4, .int x4), (5, .int x5), (6, .int x6), (7, .int x7), (8, .int x8), (9, .int s)] [] hi hm nx Q
  | 0, s, _, _, _, _, _, hW, hFr, _, h, _ => by cases h
  | k + 1, s, hi, hm, nx, Q, hm0, hW, hFr, x, h, hQ => by
    obtain ⟨z, hz, h1, h2⟩ := zloop_succ h
    exact cmmeets_62 s0 D cB cI cJ cD am a1 a2 a3 F G tp w oc n x2 x3 x4 x5 x6 x7 x8 s z hW hFr hz (fun s' hs hm' hW' hFr' => cmmeets_62L s0 D cB cI cJ cD am a1 a2 a3 F G tp w oc n x2 x3 x4 x5 x6 x7 x8 k s' hW' hFr' (h1 s' hs) hQ) (fun r hr hm' hW' hFr' => hQ r (h2 _ hr).symm hm' hW' hFr')
def mmeets (n : Nat) (F : Nat → Int32) (w : Nat → Int32) (x1 : Int32) (x2 : Int32) (x3 : Int32) (x4 : Int32) (x5 : Int32) (x6 : Int32) (x7 : Int32) : Option (Int64 × (Nat → Int32)) := (misThere w x1).bind (fun v1 => (if v1 = true then (misRun x2 x3 5000).bind (fun v2 => (if v2 = true then (mbank x1).bind (fun v3 => (misDayOfMonth w v3 x4 x5).bind (fun v4 => (if v4 = true then (misMoon x6 x7).bind (fun v5 => (if v5 = true then (mbank x1).bind (fun v6 => (zloop (mmeets_62 n (upd F 0 0) w x2 x3 x4 x5 x6 x7 v6) n x2)) else some ((-1000000000000000), (upd F 0 0)))) else some ((-1000000000000000), (upd F 0 0))))) else some ((-1000000000000000), (upd F 0 0)))) else some ((-1000000000000000), (upd F 0 0))))
theorem oX12_meets : zO yX12_meets cX12_meets 10 (some .long) 7 := ⟨zT_mem 2017 (by decide +kernel) rfl, zT_mem 94 (by decide +kernel) rfl, by decide +kernel, by decide +kernel, by decide +kernel⟩
set_option maxHeartbeats 4000000 in
set_option maxRecDepth 100000 in
theorem cmmeets (s0 : State) (D : va_G) (cB cI cJ cD : ClassId) (am a1 a2 a3 : Nat) (F : Nat → Int32) (G : Nat → Int64) (tp w oc : Nat → Int32) (n : Nat) (x1 : Int32) (x2 : Int32) (x3 : Int32) (x4 : Int32) (x5 : Int32) (x6 : Int32) (x7 : Int32) (x : Int64 × (Nat → Int32)) (h : mmeets n F w x1 x2 x3 x4 x5 x6 x7 = some x) : mC s0 D cB cI cJ cD am a1 a2 a3 yX12_meets cX12_meets 10 (some .long) 5 124 [.int x1, .int x2, .int x3, .int x4, .int x5, .int x6, .int x7] F G tp w oc (some (.long x.1)) x.2 G tp w oc := by
  intro hi hm nx Q hW hQ0
  have hQ : ∀ r : Int64 × (Nat → Int32), x = r → ∀ hm', mW cB cI am a1 a2 a3 r.2 G tp w oc hm' → mFr am a1 a2 a3 hm hm' → Q (some (.long r.1)) hi hm' nx := fun r hr => by subst hr; exact hQ0
  have hFr : mFr am a1 a2 a3 hm hm := mFr.rf
  clear hQ0
  refine zM_of (by decide +kernel) (Nat.le_of_ble_eq_true rfl) ?_
  unfold mmeets at h
  refine zV_eq (lo2 := [(0, .ref am), (1, .int x1), (2, .int x2), (3, .int x3), (4, .int x4), (5, .int x5), (6, .int x6), (7, .int x7)]) rfl rfl rfl rfl ?_
  refine zV_blk (pc' := 2) (lo' := [(0, .ref am), (1, .int x1), (2, .int x2), (3, .int x3), (4, .int x4), (5, .int x5), (6, .int x6), (7, .int x7)]) (st' := [.int 0, .ref am]) [.aload_n 0, .iconst 0] (by decide +kernel) rfl ?_
  refine m_put (idx := 25) (k := 0) (v := .int 0) (F' := (upd F 0 0)) (G' := G) hW m_in12 (by decide) (zT_mem 1440 (by decide +kernel) rfl) rfl rfl rfl rfl (by decide +kernel) (fun hm hW hFr2 => ?_)
  replace hFr := hFr.tr hFr2; clear hFr2
  refine zV_blk (pc' := 7) (lo' := [(0, .ref am), (1, .int x1), (2, .int x2), (3, .int x3), (4, .int x4), (5, .int x5), (6, .int x6), (7, .int x7)]) (st' := [.int x1, .ref am]) [.aload_n 0, .iload_n 1] (by decide +kernel) rfl ?_
  obtain ⟨v1, hv1, h⟩ := zbind h
  refine m_cR (idx := 273) (rest := []) hW (cmisThere s0 D cB cI cJ cD am a1 a2 a3 (upd F 0 0) G tp w oc x1 v1 hv1) oX12_isThere rfl (zT_mem 1686 (by decide +kernel) rfl) (zT_mem 1688 (by decide +kernel) rfl) (zT_mem 49 (by decide +kernel) rfl) rfl rfl (Nat.le_of_ble_eq_true rfl) ⟨by decide, by decide⟩ (by decide +kernel) ?_
  refine zV_eq (st2 := [.int (zb v1)]) rfl rfl rfl rfl ?_
  refine zV_bif_eq (tgt := 49) (off := 39) (by decide +kernel) (by decide) (fun q => ?_) (fun q => ?_)
  · replace h := zif_neg q h
    clear q
    refine zV_ldc2 (idx := 40) (v := (-1000000000000000)) (zT_mem 1728 (by decide +kernel) rfl) (by decide +kernel) ?_
    obtain rfl := Option.some.inj h
    exact zV_lret rfl (by decide +kernel) (hQ _ rfl hm hW hFr)
  · replace h := zif_pos q h
    clear q
    refine zV_blk (pc' := 18) (lo' := [(0, .ref am), (1, .int x1), (2, .int x2), (3, .int x3), (4, .int x4), (5, .int x5), (6, .int x6), (7, .int x7)]) (st' := [.int 5000, .int x3, .int x2]) [.iload_n 2, .iload_n 3, .sipush 5000] (by decide +kernel) rfl ?_
    obtain ⟨v2, hv2, h⟩ := zbind h
    refine zV_sC (idx := 381) (rest := []) (cmisRun s0 D cB cI cJ cD x2 x3 5000 v2 hv2) oX12_isRun (zT_mem 1958 (by decide +kernel) rfl) (zT_mem 1959 (by decide +kernel) rfl) rfl rfl (Nat.le_of_ble_eq_true rfl) ⟨by decide, by decide⟩ (by decide +kernel) ?_
    refine zV_eq (st2 := [.int (zb v2)]) rfl rfl rfl rfl ?_
    refine zV_bif_eq (tgt := 49) (off := 28) (by decide +kernel) (by decide) (fun q => ?_) (fun q => ?_)
    · replace h := zif_neg q h
      clear q
      refine zV_ldc2 (idx := 40) (v := (-1000000000000000)) (zT_mem 1728 (by decide +kernel) rfl) (by decide +kernel) ?_
      obtain rfl := Option.some.inj h
      exact zV_lret rfl (by decide +kernel) (hQ _ rfl hm hW hFr)
    · replace h := zif_pos q h
      clear q
      refine zV_blk (pc' := 26) (lo' := [(0, .ref am), (1, .int x1), (2, .int x2), (3, .int x3), (4, .int x4), (5, .int x5), (6, .int x6), (7, .int x7)]) (st' := [.int x1, .ref am]) [.aload_n 0, .iload_n 1] (by decide +kernel) rfl ?_
      obtain ⟨v3, hv3, h⟩ := zbind h
      refine zV_sC (idx := 118) (rest := [.ref am]) (cmbank s0 D cB cI cJ cD x1 v3 hv3) oX12_bank (zT_mem 1671 (by decide +kernel) rfl) (zT_mem 1672 (by decide +kernel) rfl) rfl rfl (Nat.le_of_ble_eq_true rfl) ⟨by decide, by decide⟩ (by decide +kernel) ?_
      refine zV_eq (st2 := [.int v3, .ref am]) rfl rfl rfl rfl ?_
      refine zV_blk (pc' := 33) (lo' := [(0, .ref am), (1, .int x1), (2, .int x2), (3, .int x3), (4, .int x4), (5, .int x5), (6, .int x6), (7, .int x7)]) (st' := [.int x5, .int x4, .int v3, .ref am]) [.iload 4, .iload 5] (by decide +kernel) rfl ?_
      obtain ⟨v4, hv4, h⟩ := zbind h
      refine m_cR (idx := 385) (rest := []) hW (cmisDayOfMonth s0 D cB cI cJ cD am a1 a2 a3 (upd F 0 0) G tp w oc v3 x4 x5 v4 hv4) oX12_isDayOfMonth rfl (zT_mem 1961 (by decide +kernel) rfl) (zT_mem 1963 (by decide +kernel) rfl) (zT_mem 79 (by decide +kernel) rfl) rfl rfl (Nat.le_of_ble_eq_true rfl) ⟨by decide, by decide⟩ (by decide +kernel) ?_
      refine zV_eq (st2 := [.int (zb v4)]) rfl rfl rfl rfl ?_
      refine zV_bif_eq (tgt := 49) (off := 13) (by decide +kernel) (by decide) (fun q => ?_) (fun q => ?_)
      · replace h := zif_neg q h
        clear q
        refine zV_ldc2 (idx := 40) (v := (-1000000000000000)) (zT_mem 1728 (by decide +kernel) rfl) (by decide +kernel) ?_
        obtain rfl := Option.some.inj h
        exact zV_lret rfl (by decide +kernel) (hQ _ rfl hm hW hFr)
      · replace h := zif_pos q h
        clear q
        refine zV_blk (pc' := 43) (lo' := [(0, .ref am), (1, .int x1), (2, .int x2), (3, .int x3), (4, .int x4), (5, .int x5), (6, .int x6), (7, .int x7)]) (st' := [.int x7, .int x6]) [.iload 6, .iload 7] (by decide +kernel) rfl ?_
        obtain ⟨v5, hv5, h⟩ := zbind h
        refine zV_sC (idx := 405) (rest := []) (cmisMoon s0 D cB cI cJ cD x6 x7 v5 hv5) oX12_isMoon (zT_mem 1997 (by decide +kernel) rfl) (zT_mem 1998 (by decide +kernel) rfl) rfl rfl (Nat.le_of_ble_eq_true rfl) ⟨by decide, by decide⟩ (by decide +kernel) ?_
        refine zV_eq (st2 := [.int (zb v5)]) rfl rfl rfl rfl ?_
        refine zV_bif_ne (tgt := 53) (off := 7) (by decide +kernel) (by decide) (fun q => ?_) (fun q => ?_)
        · replace h := zif_pos q h
          clear q
          refine zV_blk (pc' := 54) (lo' := [(0, .ref am), (1, .int x1), (2, .int x2), (3, .int x3), (4, .int x4), (5, .int x5), (6, .int x6), (7, .int x7)]) (st' := [.int x1]) [.iload_n 1] (by decide +kernel) rfl ?_
          obtain ⟨v6, hv6, h⟩ := zbind h
          refine zV_sC (idx := 118) (rest := []) (cmbank s0 D cB cI cJ cD x1 v6 hv6) oX12_bank (zT_mem 1671 (by decide +kernel) rfl) (zT_mem 1672 (by decide +kernel) rfl) rfl rfl (Nat.le_of_ble_eq_true rfl) ⟨by decide, by decide⟩ (by decide +kernel) ?_
          refine zV_eq (st2 := [.int v6]) rfl rfl rfl rfl ?_
          refine zV_blk (pc' := 62) (lo' := [(9, .int x2), (8, .int v6), (0, .ref am), (1, .int x1), (2, .int x2), (3, .int x3), (4, .int x4), (5, .int x5), (6, .int x6), (7, .int x7)]) (st' := []) [.istore 8, .iload_n 2, .istore 9] (by decide +kernel) rfl ?_
          refine zV_pick (lo2 := [(0, .ref am), (2, .int x2), (3, .int x3), (4, .int x4), (5, .int x5), (6, .int x6), (7, .int x7), (8, .int v6), (9, .int x2)]) [2, 4, 5, 6, 7, 8, 9, 1, 0] rfl ?_
          exact cmmeets_62L s0 D cB cI cJ cD am a1 a2 a3 (upd F 0 0) G tp w oc n x2 x3 x4 x5 x6 x7 v6 n x2 hW hFr h hQ
        · replace h := zif_neg q h
          clear q
          refine zV_ldc2 (idx := 40) (v := (-1000000000000000)) (zT_mem 1728 (by decide +kernel) rfl) (by decide +kernel) ?_
          obtain rfl := Option.some.inj h
          exact zV_lret rfl (by decide +kernel) (hQ _ rfl hm hW hFr)

def mjoin (n : Nat) (F : Nat → Int32) (G : Nat → Int64) (w : Nat → Int32) (x1 : Int32) (x2 : Int64) (x4 : Int32) (x5 : Int32) (x6 : Int32) (x7 : Int32) : Option (Int32 × (Nat → Int32) × (Nat → Int64) × (Nat → Int32)) := (misThere w x1).bind (fun v1 => (if v1 = true then (misThere w x4).bind (fun v2 => (if v2 = true then (mbank x1).bind (fun v3 => (misDay n w v3 x2).bind (fun v4 => (if v4 = true then (mbank x4).bind (fun v5 => (misDate n w v5 (x5 : Int32).toInt64 x6 x7).bind (fun v6 => (if v6 = true then (mbank x1).bind (fun v7 => (mcopies n w 3094 v7).bind (fun v8 => (mbank x4).bind (fun v9 => (mcopies n v8 3536 v9).bind (fun v10 => (mnumberOf n v10 3536 (x5 : Int32).toInt64 x6 x7).bind (fun v11 => some (1, (upd (upd F 0 0) 20 1), (vp_updL (vp_updL G 21 x2) 22 (v11 - x2)), v10)))))) else some ((-2), (upd F 0 0), G, w)))) else some ((-2), (upd F 0 0), G, w)))) else some ((-2), (upd F 0 0), G, w))) else some ((-2), (upd F 0 0), G, w)))
theorem oX12_join : zO yX12_join cX12_join 8 (some .int) 6 := ⟨zT_mem 2021 (by decide +kernel) rfl, zT_mem 94 (by decide +kernel) rfl, by decide +kernel, by decide +kernel, by decide +kernel⟩
set_option maxHeartbeats 4000000 in
set_option maxRecDepth 100000 in
theorem cmjoin (s0 : State) (D : va_G) (cB cI cJ cD : ClassId) (am a1 a2 a3 : Nat) (F : Nat → Int32) (G : Nat → Int64) (tp w oc : Nat → Int32) (n : Nat) (x1 : Int32) (x2 : Int64) (x4 : Int32) (x5 : Int32) (x6 : Int32) (x7 : Int32) (x : Int32 × (Nat → Int32) × (Nat → Int64) × (Nat → Int32)) (h : mjoin n F G w x1 x2 x4 x5 x6 x7 = some x) : mC s0 D cB cI cJ cD am a1 a2 a3 yX12_join cX12_join 8 (some .int) 5 124 [.int x1, .long x2, .int x4, .int x5, .int x6, .int x7] F G tp w oc (some (.int x.1)) x.2.1 x.2.2.1 tp x.2.2.2 oc := by
  intro hi hm nx Q hW hQ0
  have hQ : ∀ r : Int32 × (Nat → Int32) × (Nat → Int64) × (Nat → Int32), x = r → ∀ hm', mW cB cI am a1 a2 a3 r.2.1 r.2.2.1 tp r.2.2.2 oc hm' → mFr am a1 a2 a3 hm hm' → Q (some (.int r.1)) hi hm' nx := fun r hr => by subst hr; exact hQ0
  have hFr : mFr am a1 a2 a3 hm hm := mFr.rf
  clear hQ0
  refine zM_of (by decide +kernel) (Nat.le_of_ble_eq_true rfl) ?_
  unfold mjoin at h
  refine zV_eq (lo2 := [(0, .ref am), (1, .int x1), (2, .long x2), (4, .int x4), (5, .int x5), (6, .int x6), (7, .int x7)]) rfl rfl rfl rfl ?_
  refine zV_blk (pc' := 2) (lo' := [(0, .ref am), (1, .int x1), (2, .long x2), (4, .int x4), (5, .int x5), (6, .int x6), (7, .int x7)]) (st' := [.int 0, .ref am]) [.aload_n 0, .iconst 0] (by decide +kernel) rfl ?_
  refine m_put (idx := 25) (k := 0) (v := .int 0) (F' := (upd F 0 0)) (G' := G) hW m_in12 (by decide) (zT_mem 1440 (by decide +kernel) rfl) rfl rfl rfl rfl (by decide +kernel) (fun hm hW hFr2 => ?_)
  replace hFr := hFr.tr hFr2; clear hFr2
  refine zV_blk (pc' := 7) (lo' := [(0, .ref am), (1, .int x1), (2, .long x2), (4, .int x4), (5, .int x5), (6, .int x6), (7, .int x7)]) (st' := [.int x1, .ref am]) [.aload_n 0, .iload_n 1] (by decide +kernel) rfl ?_
  obtain ⟨v1, hv1, h⟩ := zbind h
  refine m_cR (idx := 273) (rest := []) hW (cmisThere s0 D cB cI cJ cD am a1 a2 a3 (upd F 0 0) G tp w oc x1 v1 hv1) oX12_isThere rfl (zT_mem 1686 (by decide +kernel) rfl) (zT_mem 1688 (by decide +kernel) rfl) (zT_mem 49 (by decide +kernel) rfl) rfl rfl (Nat.le_of_ble_eq_true rfl) ⟨by decide, by decide⟩ (by decide +kernel) ?_
  refine zV_eq (st2 := [.int (zb v1)]) rfl rfl rfl rfl ?_
  refine zV_bif_eq (tgt := 53) (off := 43) (by decide +kernel) (by decide) (fun q => ?_) (fun q => ?_)
  · replace h := zif_neg q h
    clear q
    refine zV_blk (pc' := 55) (lo' := [(0, .ref am), (1, .int x1), (2, .long x2), (4, .int x4), (5, .int x5), (6, .int x6), (7, .int x7)]) (st' := [.int (-2)]) [.bipush (-2)] (by decide +kernel) rfl ?_
    obtain rfl := Option.some.inj h
    exact zV_iret rfl (by decide +kernel) (hQ _ rfl hm hW hFr)
  · replace h := zif_pos q h
    clear q
    refine zV_blk (pc' := 16) (lo' := [(0, .ref am), (1, .int x1), (2, .long x2), (4, .int x4), (5, .int x5), (6, .int x6), (7, .int x7)]) (st' := [.int x4, .ref am]) [.aload_n 0, .iload 4] (by decide +kernel) rfl ?_
    obtain ⟨v2, hv2, h⟩ := zbind h
    refine m_cR (idx := 273) (rest := []) hW (cmisThere s0 D cB cI cJ cD am a1 a2 a3 (upd F 0 0) G tp w oc x4 v2 hv2) oX12_isThere rfl (zT_mem 1686 (by decide +kernel) rfl) (zT_mem 1688 (by decide +kernel) rfl) (zT_mem 49 (by decide +kernel) rfl) rfl rfl (Nat.le_of_ble_eq_true rfl) ⟨by decide, by decide⟩ (by decide +kernel) ?_
    refine zV_eq (st2 := [.int (zb v2)]) rfl rfl rfl rfl ?_
    refine zV_bif_eq (tgt := 53) (off := 34) (by decide +kernel) (by decide) (fun q => ?_) (fun q => ?_)
    · replace h := zif_neg q h
      clear q
      refine zV_blk (pc' := 55) (lo' := [(0, .ref am), (1, .int x1), (2, .long x2), (4, .int x4), (5, .int x5), (6, .int x6), (7, .int x7)]) (st' := [.int (-2)]) [.bipush (-2)] (by decide +kernel) rfl ?_
      obtain rfl := Option.some.inj h
      exact zV_iret rfl (by decide +kernel) (hQ _ rfl hm hW hFr)
    · replace h := zif_pos q h
      clear q
      refine zV_blk (pc' := 24) (lo' := [(0, .ref am), (1, .int x1), (2, .long x2), (4, .int x4), (5, .int x5), (6, .int x6), (7, .int x7)]) (st' := [.int x1, .ref am]) [.aload_n 0, .iload_n 1] (by decide +kernel) rfl ?_
      obtain ⟨v3, hv3, h⟩ := zbind h
      refine zV_sC (idx := 118) (rest := [.ref am]) (cmbank s0 D cB cI cJ cD x1 v3 hv3) oX12_bank (zT_mem 1671 (by decide +kernel) rfl) (zT_mem 1672 (by decide +kernel) rfl) rfl rfl (Nat.le_of_ble_eq_true rfl) ⟨by decide, by decide⟩ (by decide +kernel) ?_
      refine zV_eq (st2 := [.int v3, .ref am]) rfl rfl rfl rfl ?_
      refine zV_blk (pc' := 28) (lo' := [(0, .ref am), (1, .int x1), (2, .long x2), (4, .int x4), (5, .int x5), (6, .int x6), (7, .int x7)]) (st' := [.long x2, .int v3, .ref am]) [.lload_n 2] (by decide +kernel) rfl ?_
      obtain ⟨v4, hv4, h⟩ := zbind h
      refine m_cR (idx := 328) (rest := []) hW (cmisDay s0 D cB cI cJ cD am a1 a2 a3 (upd F 0 0) G tp w oc n v3 x2 v4 hv4) oX12_isDay rfl (zT_mem 1845 (by decide +kernel) rfl) (zT_mem 1847 (by decide +kernel) rfl) (zT_mem 66 (by decide +kernel) rfl) rfl rfl (Nat.le_of_ble_eq_true rfl) ⟨by decide, by decide⟩ (by decide +kernel) ?_
      refine zV_eq (st2 := [.int (zb v4)]) rfl rfl rfl rfl ?_
      refine zV_bif_eq (tgt := 53) (off := 22) (by decide +kernel) (by decide) (fun q => ?_) (fun q => ?_)
      · replace h := zif_neg q h
        clear q
        refine zV_blk (pc' := 55) (lo' := [(0, .ref am), (1, .int x1), (2, .long x2), (4, .int x4), (5, .int x5), (6, .int x6), (7, .int x7)]) (st' := [.int (-2)]) [.bipush (-2)] (by decide +kernel) rfl ?_
        obtain rfl := Option.some.inj h
        exact zV_iret rfl (by decide +kernel) (hQ _ rfl hm hW hFr)
      · replace h := zif_pos q h
        clear q
        refine zV_blk (pc' := 37) (lo' := [(0, .ref am), (1, .int x1), (2, .long x2), (4, .int x4), (5, .int x5), (6, .int x6), (7, .int x7)]) (st' := [.int x4, .ref am]) [.aload_n 0, .iload 4] (by decide +kernel) rfl ?_
        obtain ⟨v5, hv5, h⟩ := zbind h
        refine zV_sC (idx := 118) (rest := [.ref am]) (cmbank s0 D cB cI cJ cD x4 v5 hv5) oX12_bank (zT_mem 1671 (by decide +kernel) rfl) (zT_mem 1672 (by decide +kernel) rfl) rfl rfl (Nat.le_of_ble_eq_true rfl) ⟨by decide, by decide⟩ (by decide +kernel) ?_
        refine zV_eq (st2 := [.int v5, .ref am]) rfl rfl rfl rfl ?_
        refine zV_blk (pc' := 47) (lo' := [(0, .ref am), (1, .int x1), (2, .long x2), (4, .int x4), (5, .int x5), (6, .int x6), (7, .int x7)]) (st' := [.int x7, .int x6, .long (x5 : Int32).toInt64, .int v5, .ref am]) [.iload 5, .i2l, .iload 6, .iload 7] (by decide +kernel) rfl ?_
        obtain ⟨v6, hv6, h⟩ := zbind h
        refine m_cR (idx := 337) (rest := []) hW (cmisDate s0 D cB cI cJ cD am a1 a2 a3 (upd F 0 0) G tp w oc n v5 (x5 : Int32).toInt64 x6 x7 v6 hv6) oX12_isDate rfl (zT_mem 1868 (by decide +kernel) rfl) (zT_mem 1870 (by decide +kernel) rfl) (zT_mem 70 (by decide +kernel) rfl) rfl rfl (Nat.le_of_ble_eq_true rfl) ⟨by decide, by decide⟩ (by decide +kernel) ?_
        refine zV_eq (st2 := [.int (zb v6)]) rfl rfl rfl rfl ?_
        refine zV_bif_ne (tgt := 56) (off := 6) (by decide +kernel) (by decide) (fun q => ?_) (fun q => ?_)
        · replace h := zif_pos q h
          clear q
          refine zV_blk (pc' := 61) (lo' := [(0, .ref am), (1, .int x1), (2, .long x2), (4, .int x4), (5, .int x5), (6, .int x6), (7, .int x7)]) (st' := [.int x1, .int 3094, .ref am]) [.aload_n 0, .sipush 3094, .iload_n 1] (by decide +kernel) rfl ?_
          obtain ⟨v7, hv7, h⟩ := zbind h
          refine zV_sC (idx := 118) (rest := [.int 3094, .ref am]) (cmbank s0 D cB cI cJ cD x1 v7 hv7) oX12_bank (zT_mem 1671 (by decide +kernel) rfl) (zT_mem 1672 (by decide +kernel) rfl) rfl rfl (Nat.le_of_ble_eq_true rfl) ⟨by decide, by decide⟩ (by decide +kernel) ?_
          refine zV_eq (st2 := [.int v7, .int 3094, .ref am]) rfl rfl rfl rfl ?_
          obtain ⟨v8, hv8, h⟩ := zbind h
          refine m_cC (idx := 226) (rest := []) hW (cmcopies s0 D cB cI cJ cD am a1 a2 a3 (upd F 0 0) G tp w oc n 3094 v7 v8 hv8) oX12_copies rfl (zT_mem 1674 (by decide +kernel) rfl) (zT_mem 1676 (by decide +kernel) rfl) (zT_mem 48 (by decide +kernel) rfl) rfl rfl (Nat.le_of_ble_eq_true rfl) ⟨by decide, by decide⟩ (by decide +kernel) (fun hm hW hFr2 => ?_)
          replace hFr := hFr.tr hFr2; clear hFr2
          refine zV_eq (st2 := []) rfl rfl rfl rfl ?_
          refine zV_blk (pc' := 73) (lo' := [(0, .ref am), (1, .int x1), (2, .long x2), (4, .int x4), (5, .int x5), (6, .int x6), (7, .int x7)]) (st' := [.int x4, .int 3536, .ref am]) [.aload_n 0, .sipush 3536, .iload 4] (by decide +kernel) rfl ?_
          obtain ⟨v9, hv9, h⟩ := zbind h
          refine zV_sC (idx := 118) (rest := [.int 3536, .ref am]) (cmbank s0 D cB cI cJ cD x4 v9 hv9) oX12_bank (zT_mem 1671 (by decide +kernel) rfl) (zT_mem 1672 (by decide +kernel) rfl) rfl rfl (Nat.le_of_ble_eq_true rfl) ⟨by decide, by decide⟩ (by decide +kernel) ?_
          refine zV_eq (st2 := [.int v9, .int 3536, .ref am]) rfl rfl rfl rfl ?_
          obtain ⟨v10, hv10, h⟩ := zbind h
          refine m_cC (idx := 226) (rest := []) hW (cmcopies s0 D cB cI cJ cD am a1 a2 a3 (upd F 0 0) G tp v8 oc n 3536 v9 v10 hv10) oX12_copies rfl (zT_mem 1674 (by decide +kernel) rfl) (zT_mem 1676 (by decide +kernel) rfl) (zT_mem 48 (by decide +kernel) rfl) rfl rfl (Nat.le_of_ble_eq_true rfl) ⟨by decide, by decide⟩ (by decide +kernel) (fun hm hW hFr2 => ?_)
          replace hFr := hFr.tr hFr2; clear hFr2
          refine zV_eq (st2 := []) rfl rfl rfl rfl ?_
          refine zV_blk (pc' := 81) (lo' := [(0, .ref am), (1, .int x1), (2, .long x2), (4, .int x4), (5, .int x5), (6, .int x6), (7, .int x7)]) (st' := [.long x2, .ref am]) [.aload_n 0, .lload_n 2] (by decide +kernel) rfl ?_
          refine m_put (idx := 418) (k := 21) (v := .long x2) (F' := (upd F 0 0)) (G' := (vp_updL G 21 x2)) hW m_in12 (by decide) (zT_mem 1461 (by decide +kernel) rfl) rfl rfl rfl rfl (by decide +kernel) (fun hm hW hFr2 => ?_)
          replace hFr := hFr.tr hFr2; clear hFr2
          refine zV_blk (pc' := 96) (lo' := [(0, .ref am), (1, .int x1), (2, .long x2), (4, .int x4), (5, .int x5), (6, .int x6), (7, .int x7)]) (st' := [.int x7, .int x6, .long (x5 : Int32).toInt64, .int 3536, .ref am, .ref am]) [.aload_n 0, .aload_n 0, .sipush 3536, .iload 5, .i2l, .iload 6, .iload 7] (by decide +kernel) rfl ?_
          obtain ⟨v11, hv11, h⟩ := zbind h
          refine m_cR (idx := 341) (rest := [.ref am]) hW (cmnumberOf s0 D cB cI cJ cD am a1 a2 a3 (upd F 0 0) (vp_updL G 21 x2) tp v10 oc n 3536 (x5 : Int32).toInt64 x6 x7 v11 hv11) oX12_numberOf rfl (zT_mem 1872 (by decide +kernel) rfl) (zT_mem 1874 (by decide +kernel) rfl) (zT_mem 71 (by decide +kernel) rfl) rfl rfl (Nat.le_of_ble_eq_true rfl) ⟨by decide, by decide⟩ (by decide +kernel) ?_
          refine zV_eq (st2 := [.long v11, .ref am]) rfl rfl rfl rfl ?_
          refine zV_blk (pc' := 101) (lo' := [(0, .ref am), (1, .int x1), (2, .long x2), (4, .int x4), (5, .int x5), (6, .int x6), (7, .int x7)]) (st' := [.long (v11 - x2), .ref am]) [.lload_n 2, .lsub] (by decide +kernel) rfl ?_
          refine m_put (idx := 422) (k := 22) (v := .long (v11 - x2)) (F' := (upd F 0 0)) (G' := (vp_updL (vp_updL G 21 x2) 22 (v11 - x2))) hW m_in12 (by decide) (zT_mem 1462 (by decide +kernel) rfl) rfl rfl rfl rfl (by decide +kernel) (fun hm hW hFr2 => ?_)
          replace hFr := hFr.tr hFr2; clear hFr2
          refine zV_blk (pc' := 106) (lo' := [(0, .ref am), (1, .int x1), (2, .long x2), (4, .int x4), (5, .int x5), (6, .int x6), (7, .int x7)]) (st' := [.int 1, .ref am]) [.aload_n 0, .iconst 1] (by decide +kernel) rfl ?_
          refine m_put (idx := 425) (k := 20) (v := .int 1) (F' := (upd (upd F 0 0) 20 1)) (G' := (vp_updL (vp_updL G 21 x2) 22 (v11 - x2))) hW m_in12 (by decide) (zT_mem 1460 (by decide +kernel) rfl) rfl (by decide +kernel) (by decide +kernel) rfl (by decide +kernel) (fun hm hW hFr2 => ?_)
          replace hFr := hFr.tr hFr2; clear hFr2
          refine zV_blk (pc' := 110) (lo' := [(0, .ref am), (1, .int x1), (2, .long x2), (4, .int x4), (5, .int x5), (6, .int x6), (7, .int x7)]) (st' := [.int 1]) [.iconst 1] (by decide +kernel) rfl ?_
          obtain rfl := Option.some.inj h
          exact zV_iret rfl (by decide +kernel) (hQ _ rfl hm hW hFr)
        · replace h := zif_neg q h
          clear q
          refine zV_blk (pc' := 55) (lo' := [(0, .ref am), (1, .int x1), (2, .long x2), (4, .int x4), (5, .int x5), (6, .int x6), (7, .int x7)]) (st' := [.int (-2)]) [.bipush (-2)] (by decide +kernel) rfl ?_
          obtain rfl := Option.some.inj h
          exact zV_iret rfl (by decide +kernel) (hQ _ rfl hm hW hFr)

