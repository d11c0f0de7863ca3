def mjoined (n : Nat) (F : Nat → Int32) (G : Nat → Int64) (w : Nat → Int32) (x1 : Int64) (x3 : Int32) : Option (Int64 × (Nat → Int32)) := (if (((upd F 0 0) 20) : Int32) = (0 : Int32) then some ((-1000000000000000), (upd F 0 0)) else (misIn (x3 : Int32).toInt64 0 4).bind (fun v1 => (if v1 = true then (if ((G 21) : Int64) ≤ (x1 : Int64) then (misDay n w 3094 x1).bind (fun v2 => (if v2 = true then (misDay n w 3536 (x1 + (G 22))).bind (fun v3 => (if v3 = true then (if (x3 : Int32) = (4 : Int32) then (mweekdayOf w 3094 x1).bind (fun v5 => some ((v5 : Int32).toInt64, (upd F 0 0))) else (mdateOf n w 3536 (x1 + (G 22)) x3).bind (fun v4 => some (v4, (upd F 0 0)))) else some ((-1000000000000000), (upd F 0 0)))) else some ((-1000000000000000), (upd F 0 0)))) else (misDay n w 3094 x1).bind (fun v6 => (if v6 = true then (mdateOf n w 3094 x1 x3).bind (fun v7 => some (v7, (upd F 0 0))) else some ((-1000000000000000), (upd F 0 0))))) else some ((-1000000000000000), (upd F 0 0)))))
theorem oX12_joined : zO yX12_joined cX12_joined 4 (some .long) 2 := ⟨zT_mem 2025 (by decide +kernel) rfl, zT_mem 94 (by decide +kernel) rfl, by decide +kernel, by decide +kernel, by decide +kernel⟩
set_option maxHeartbeats 4000000 in
set_option maxRecDepth 100000 in
theorem cmjoined (s0 : State) (D : va_G) (cB cI cJ cD : ClassId) (am a1 a2 a3 : Nat) (F : Nat → Int32) (G : Nat → Int64) (tp w oc : Nat → Int32) (n : Nat) (x1 : Int64) (x3 : Int32) (x : Int64 × (Nat → Int32)) (h : mjoined n F G w x1 x3 = some x) : mC s0 D cB cI cJ cD am a1 a2 a3 yX12_joined cX12_joined 4 (some .long) 6 156 [.long x1, .int x3] F G tp w oc (some (.long x.1)) x.2 G tp w oc := by
  intro hi hm nx Q hW hQ0
  have hQ : ∀ r : Int64 × (Nat → Int32), x = r → ∀ hm', mW cB cI am a1 a2 a3 r.2 G tp w oc hm' → mFr am a1 a2 a3 hm hm' → Q (some (.long r.1)) hi hm' nx := fun r hr => by subst hr; exact hQ0
  have hFr : mFr am a1 a2 a3 hm hm := mFr.rf
  clear hQ0
  refine zM_of (by decide +kernel) (Nat.le_of_ble_eq_true rfl) ?_
  unfold mjoined at h
  refine zV_eq (lo2 := [(0, .ref am), (1, .long x1), (3, .int x3)]) rfl rfl rfl rfl ?_
  refine zV_blk (pc' := 2) (lo' := [(0, .ref am), (1, .long x1), (3, .int x3)]) (st' := [.int 0, .ref am]) [.aload_n 0, .iconst 0] (by decide +kernel) rfl ?_
  refine m_put (idx := 25) (k := 0) (v := .int 0) (F' := (upd F 0 0)) (G' := G) hW m_in12 (by decide) (zT_mem 1440 (by decide +kernel) rfl) rfl rfl rfl rfl (by decide +kernel) (fun hm hW hFr2 => ?_)
  replace hFr := hFr.tr hFr2; clear hFr2
  refine zV_blk (pc' := 6) (lo' := [(0, .ref am), (1, .long x1), (3, .int x3)]) (st' := [.ref am]) [.aload_n 0] (by decide +kernel) rfl ?_
  refine m_get (idx := 425) (k := 20) (v := .int ((upd F 0 0) 20)) hW m_in12 (by decide) (zT_mem 1460 (by decide +kernel) rfl) rfl (by decide +kernel) ?_
  refine zV_if_eq (tgt := 24) (off := 15) (by decide +kernel) (by decide) (fun q => ?_) (fun q => ?_)
  · replace h := zif_pos q h
    clear q
    refine zV_ldc2 (idx := 40) (v := (-1000000000000000)) (zT_mem 1728 (by decide +kernel) rfl) (by decide +kernel) ?_
    obtain rfl := Option.some.inj h
    exact zV_lret rfl (by decide +kernel) (hQ _ rfl hm hW hFr)
  · replace h := zif_neg q h
    clear q
    refine zV_blk (pc' := 15) (lo' := [(0, .ref am), (1, .long x1), (3, .int x3)]) (st' := [.long 0, .long (x3 : Int32).toInt64]) [.iload_n 3, .i2l, .lconst 0] (by decide +kernel) rfl ?_
    refine zV_ldc2 (idx := 331) (v := 4) (zT_mem 1850 (by decide +kernel) rfl) (by decide +kernel) ?_
    obtain ⟨v1, hv1, h⟩ := zbind h
    refine zV_sC (idx := 36) (rest := []) (cmisIn s0 D cB cI cJ cD (x3 : Int32).toInt64 0 4 v1 hv1) oX12_isIn (zT_mem 1531 (by decide +kernel) rfl) (zT_mem 1532 (by decide +kernel) rfl) rfl rfl (Nat.le_of_ble_eq_true rfl) ⟨by decide, by decide⟩ (by decide +kernel) ?_
    refine zV_eq (st2 := [.int (zb v1)]) rfl rfl rfl rfl ?_
    refine zV_bif_ne (tgt := 28) (off := 7) (by decide +kernel) (by decide) (fun q => ?_) (fun q => ?_)
    · replace h := zif_pos q h
      clear q
      refine zV_blk (pc' := 30) (lo' := [(0, .ref am), (1, .long x1), (3, .int x3)]) (st' := [.ref am, .long x1]) [.lload_n 1, .aload_n 0] (by decide +kernel) rfl ?_
      refine m_get (idx := 418) (k := 21) (v := .long (G 21)) hW m_in12 (by decide) (zT_mem 1461 (by decide +kernel) rfl) rfl (by decide +kernel) ?_
      refine zV_blk (pc' := 34) (lo' := [(0, .ref am), (1, .long x1), (3, .int x3)]) (st' := [.int (lg_cmp x1 (G 21))]) [.lcmp] (by decide +kernel) rfl ?_
      refine zV_lcmp_ge (tgt := 64) (off := 30) (by decide +kernel) (by decide) (fun q => ?_) (fun q => ?_)
      · replace h := zif_pos q h
        clear q
        refine zV_blk (pc' := 69) (lo' := [(0, .ref am), (1, .long x1), (3, .int x3)]) (st' := [.long x1, .int 3094, .ref am]) [.aload_n 0, .sipush 3094, .lload_n 1] (by decide +kernel) rfl ?_
        obtain ⟨v2, hv2, h⟩ := zbind h
        refine m_cR (idx := 328) (rest := []) hW (cmisDay s0 D cB cI cJ cD am a1 a2 a3 (upd F 0 0) G tp w oc n 3094 x1 v2 hv2) oX12_isDay rfl (zT_mem 1845 (by decide +kernel) rfl) (zT_mem 1847 (by decide +kernel) rfl) (zT_mem 66 (by decide +kernel) rfl) rfl rfl (Nat.le_of_ble_eq_true rfl) ⟨by decide, by decide⟩ (by decide +kernel) ?_
        refine zV_eq (st2 := [.int (zb v2)]) rfl rfl rfl rfl ?_
        refine zV_bif_eq (tgt := 91) (off := 19) (by decide +kernel) (by decide) (fun q => ?_) (fun q => ?_)
        · replace h := zif_neg q h
          clear q
          refine zV_ldc2 (idx := 40) (v := (-1000000000000000)) (zT_mem 1728 (by decide +kernel) rfl) (by decide +kernel) ?_
          obtain rfl := Option.some.inj h
          exact zV_lret rfl (by decide +kernel) (hQ _ rfl hm hW hFr)
        · replace h := zif_pos q h
          clear q
          refine zV_blk (pc' := 81) (lo' := [(0, .ref am), (1, .long x1), (3, .int x3)]) (st' := [.ref am, .long x1, .int 3536, .ref am]) [.aload_n 0, .sipush 3536, .lload_n 1, .aload_n 0] (by decide +kernel) rfl ?_
          refine m_get (idx := 422) (k := 22) (v := .long (G 22)) hW m_in12 (by decide) (zT_mem 1462 (by decide +kernel) rfl) rfl (by decide +kernel) ?_
          refine zV_blk (pc' := 85) (lo' := [(0, .ref am), (1, .long x1), (3, .int x3)]) (st' := [.long (x1 + (G 22)), .int 3536, .ref am]) [.ladd] (by decide +kernel) rfl ?_
          obtain ⟨v3, hv3, h⟩ := zbind h
          refine m_cR (idx := 328) (rest := []) hW (cmisDay s0 D cB cI cJ cD am a1 a2 a3 (upd F 0 0) G tp w oc n 3536 (x1 + (G 22)) v3 hv3) oX12_isDay rfl (zT_mem 1845 (by decide +kernel) rfl) (zT_mem 1847 (by decide +kernel) rfl) (zT_mem 66 (by decide +kernel) rfl) rfl rfl (Nat.le_of_ble_eq_true rfl) ⟨by decide, by decide⟩ (by decide +kernel) ?_
          refine zV_eq (st2 := [.int (zb v3)]) rfl rfl rfl rfl ?_
          refine zV_bif_ne (tgt := 95) (off := 7) (by decide +kernel) (by decide) (fun q => ?_) (fun q => ?_)
          · replace h := zif_pos q h
            clear q
            refine zV_blk (pc' := 97) (lo' := [(0, .ref am), (1, .long x1), (3, .int x3)]) (st' := [.int 4, .int x3]) [.iload_n 3, .iconst 4] (by decide +kernel) rfl ?_
            refine zV_icmp_ne (tgt := 112) (off := 15) (by decide +kernel) (by decide) (fun q => ?_) (fun q => ?_)
            · replace h := zif_neg q h
              clear q
              refine zV_blk (pc' := 118) (lo' := [(0, .ref am), (1, .long x1), (3, .int x3)]) (st' := [.ref am, .long x1, .int 3536, .ref am]) [.aload_n 0, .sipush 3536, .lload_n 1, .aload_n 0] (by decide +kernel) rfl ?_
              refine m_get (idx := 422) (k := 22) (v := .long (G 22)) hW m_in12 (by decide) (zT_mem 1462 (by decide +kernel) rfl) rfl (by decide +kernel) ?_
              refine zV_blk (pc' := 123) (lo' := [(0, .ref am), (1, .long x1), (3, .int x3)]) (st' := [.int x3, .long (x1 + (G 22)), .int 3536, .ref am]) [.ladd, .iload_n 3] (by decide +kernel) rfl ?_
              obtain ⟨v4, hv4, h⟩ := zbind h
              refine m_cR (idx := 333) (rest := []) hW (cmdateOf s0 D cB cI cJ cD am a1 a2 a3 (upd F 0 0) G tp w oc n 3536 (x1 + (G 22)) x3 v4 hv4) oX12_dateOf rfl (zT_mem 1851 (by decide +kernel) rfl) (zT_mem 1853 (by decide +kernel) rfl) (zT_mem 67 (by decide +kernel) rfl) rfl rfl (Nat.le_of_ble_eq_true rfl) ⟨by decide, by decide⟩ (by decide +kernel) ?_
              refine zV_eq (st2 := [.long v4]) rfl rfl rfl rfl ?_
              obtain rfl := Option.some.inj h
              exact zV_lret rfl (by decide +kernel) (hQ _ rfl hm hW hFr)
            · replace h := zif_pos q h
              clear q
              refine zV_blk (pc' := 105) (lo' := [(0, .ref am), (1, .long x1), (3, .int x3)]) (st' := [.long x1, .int 3094, .ref am]) [.aload_n 0, .sipush 3094, .lload_n 1] (by decide +kernel) rfl ?_
              obtain ⟨v5, hv5, h⟩ := zbind h
              refine m_cR (idx := 269) (rest := []) hW (cmweekdayOf s0 D cB cI cJ cD am a1 a2 a3 (upd F 0 0) G tp w oc 3094 x1 v5 hv5) oX12_weekdayOf rfl (zT_mem 1860 (by decide +kernel) rfl) (zT_mem 1862 (by decide +kernel) rfl) (zT_mem 69 (by decide +kernel) rfl) rfl rfl (Nat.le_of_ble_eq_true rfl) ⟨by decide, by decide⟩ (by decide +kernel) ?_
              refine zV_eq (st2 := [.int v5]) rfl rfl rfl rfl ?_
              refine zV_blk (pc' := 109) (lo' := [(0, .ref am), (1, .long x1), (3, .int x3)]) (st' := [.long (v5 : Int32).toInt64]) [.i2l] (by decide +kernel) rfl ?_
              refine zV_goto (tgt := 126) (off := 17) (by decide +kernel) (by decide) ?_
              obtain rfl := Option.some.inj h
              exact zV_lret rfl (by decide +kernel) (hQ _ rfl hm hW hFr)
          · replace h := zif_neg q h
            clear q
            refine zV_ldc2 (idx := 40) (v := (-1000000000000000)) (zT_mem 1728 (by decide +kernel) rfl) (by decide +kernel) ?_
            obtain rfl := Option.some.inj h
            exact zV_lret rfl (by decide +kernel) (hQ _ rfl hm hW hFr)
      · replace h := zif_neg q h
        clear q
        refine zV_blk (pc' := 42) (lo' := [(0, .ref am), (1, .long x1), (3, .int x3)]) (st' := [.long x1, .int 3094, .ref am]) [.aload_n 0, .sipush 3094, .lload_n 1] (by decide +kernel) rfl ?_
        obtain ⟨v6, hv6, h⟩ := zbind h
        refine m_cR (idx := 328) (rest := []) hW (cmisDay s0 D cB cI cJ cD am a1 a2 a3 (upd F 0 0) G tp w oc n 3094 x1 v6 hv6) oX12_isDay rfl (zT_mem 1845 (by decide +kernel) rfl) (zT_mem 1847 (by decide +kernel) rfl) (zT_mem 66 (by decide +kernel) rfl) rfl rfl (Nat.le_of_ble_eq_true rfl) ⟨by decide, by decide⟩ (by decide +kernel) ?_
        refine zV_eq (st2 := [.int (zb v6)]) rfl rfl rfl rfl ?_
        refine zV_bif_eq (tgt := 60) (off := 15) (by decide +kernel) (by decide) (fun q => ?_) (fun q => ?_)
        · replace h := zif_neg q h
          clear q
          refine zV_ldc2 (idx := 40) (v := (-1000000000000000)) (zT_mem 1728 (by decide +kernel) rfl) (by decide +kernel) ?_
          obtain rfl := Option.some.inj h
          exact zV_lret rfl (by decide +kernel) (hQ _ rfl hm hW hFr)
        · replace h := zif_pos q h
          clear q
          refine zV_blk (pc' := 54) (lo' := [(0, .ref am), (1, .long x1), (3, .int x3)]) (st' := [.int x3, .long x1, .int 3094, .ref am]) [.aload_n 0, .sipush 3094, .lload_n 1, .iload_n 3] (by decide +kernel) rfl ?_
          obtain ⟨v7, hv7, h⟩ := zbind h
          refine m_cR (idx := 333) (rest := []) hW (cmdateOf s0 D cB cI cJ cD am a1 a2 a3 (upd F 0 0) G tp w oc n 3094 x1 x3 v7 hv7) oX12_dateOf rfl (zT_mem 1851 (by decide +kernel) rfl) (zT_mem 1853 (by decide +kernel) rfl) (zT_mem 67 (by decide +kernel) rfl) rfl rfl (Nat.le_of_ble_eq_true rfl) ⟨by decide, by decide⟩ (by decide +kernel) ?_
          refine zV_eq (st2 := [.long v7]) rfl rfl rfl rfl ?_
          refine zV_goto (tgt := 63) (off := 6) (by decide +kernel) (by decide) ?_
          obtain rfl := Option.some.inj h
          exact zV_lret rfl (by decide +kernel) (hQ _ rfl hm hW hFr)
    · replace h := zif_neg q h
      clear q
      refine zV_ldc2 (idx := 40) (v := (-1000000000000000)) (zT_mem 1728 (by decide +kernel) rfl) (by decide +kernel) ?_
      obtain rfl := Option.some.inj h
      exact zV_lret rfl (by decide +kernel) (hQ _ rfl hm hW hFr)

def misAhead (n : Nat) (G : Nat → Int64) (w : Nat → Int32) (x1 : Int32) (x2 : Int32) (x3 : Int32) : Option (Bool) := (misDate n w 3094 (x1 : Int32).toInt64 x2 x3).bind (fun v1 => (if v1 = true then (mnumberOf n w 3094 (x1 : Int32).toInt64 x2 x3).bind (fun v2 => (if ((G 21) : Int64) ≤ (v2 : Int64) then some false else some true)) else some false))
theorem oX12_isAhead : zO yX12_isAhead cX12_isAhead 4 (some .boolean) 3 := ⟨zT_mem 2033 (by decide +kernel) rfl, zT_mem 94 (by decide +kernel) rfl, by decide +kernel, by decide +kernel, by decide +kernel⟩
set_option maxHeartbeats 4000000 in
set_option maxRecDepth 100000 in
theorem cmisAhead (s0 : State) (D : va_G) (cB cI cJ cD : ClassId) (am a1 a2 a3 : Nat) (F : Nat → Int32) (G : Nat → Int64) (tp w oc : Nat → Int32) (n : Nat) (x1 : Int32) (x2 : Int32) (x3 : Int32) (x : Bool) (h : misAhead n G w x1 x2 x3 = some x) : mR s0 D cB cI cJ cD am a1 a2 a3 yX12_isAhead cX12_isAhead 4 (some .boolean) 5 124 [.int x1, .int x2, .int x3] F G tp w oc (some (.int (zb x))) := by
  intro hi hm nx Q hW hQ0
  have hQ : ∀ r : Bool, x = r → Q (some (.int (zb r))) hi hm nx := fun r hr => by subst hr; exact hQ0
  refine zM_of (by decide +kernel) (Nat.le_of_ble_eq_true rfl) ?_
  unfold misAhead at h
  refine zV_eq (lo2 := [(0, .ref am), (1, .int x1), (2, .int x2), (3, .int x3)]) rfl rfl rfl rfl ?_
  refine zV_blk (pc' := 8) (lo' := [(0, .ref am), (1, .int x1), (2, .int x2), (3, .int x3)]) (st' := [.int x3, .int x2, .long (x1 : Int32).toInt64, .int 3094, .ref am]) [.aload_n 0, .sipush 3094, .iload_n 1, .i2l, .iload_n 2, .iload_n 3] (by decide +kernel) rfl ?_
  obtain ⟨v1, hv1, h⟩ := zbind h
  refine m_cR (idx := 337) (rest := []) hW (cmisDate s0 D cB cI cJ cD am a1 a2 a3 F G tp w oc n 3094 (x1 : Int32).toInt64 x2 x3 v1 hv1) oX12_isDate rfl (zT_mem 1868 (by decide +kernel) rfl) (zT_mem 1870 (by decide +kernel) rfl) (zT_mem 70 (by decide +kernel) rfl) rfl rfl (Nat.le_of_ble_eq_true rfl) ⟨by decide, by decide⟩ (by decide +kernel) ?_
  refine zV_eq (st2 := [.int (zb v1)]) rfl rfl rfl rfl ?_
  refine zV_bif_eq (tgt := 37) (off := 26) (by decide +kernel) (by decide) (fun q => ?_) (fun q => ?_)
  · replace h := zif_neg q h
    clear q
    refine zV_blk (pc' := 38) (lo' := [(0, .ref am), (1, .int x1), (2, .int x2), (3, .int x3)]) (st' := [.int 0]) [.iconst 0] (by decide +kernel) rfl ?_
    obtain rfl := Option.some.inj h
    refine zV_eq (st2 := [.int (zb false)]) rfl rfl rfl rfl ?_
    exact zV_bret rfl (by decide +kernel) (hQ _ rfl)
  · replace h := zif_pos q h
    clear q
    refine zV_blk (pc' := 22) (lo' := [(0, .ref am), (1, .int x1), (2, .int x2), (3, .int x3)]) (st' := [.int x3, .int x2, .long (x1 : Int32).toInt64, .int 3094, .ref am]) [.aload_n 0, .sipush 3094, .iload_n 1, .i2l, .iload_n 2, .iload_n 3] (by decide +kernel) rfl ?_
    obtain ⟨v2, hv2, h⟩ := zbind h
    refine m_cR (idx := 341) (rest := []) hW (cmnumberOf s0 D cB cI cJ cD am a1 a2 a3 F G tp w oc n 3094 (x1 : Int32).toInt64 x2 x3 v2 hv2) oX12_numberOf rfl (zT_mem 1872 (by decide +kernel) rfl) (zT_mem 1874 (by decide +kernel) rfl) (zT_mem 71 (by decide +kernel) rfl) rfl rfl (Nat.le_of_ble_eq_true rfl) ⟨by decide, by decide⟩ (by decide +kernel) ?_
    refine zV_eq (st2 := [.long v2]) rfl rfl rfl rfl ?_
    refine zV_blk (pc' := 26) (lo' := [(0, .ref am), (1, .int x1), (2, .int x2), (3, .int x3)]) (st' := [.ref am, .long v2]) [.aload_n 0] (by decide +kernel) rfl ?_
    refine m_get (idx := 418) (k := 21) (v := .long (G 21)) hW m_in12 (by decide) (zT_mem 1461 (by decide +kernel) rfl) rfl (by decide +kernel) ?_
    refine zV_blk (pc' := 30) (lo' := [(0, .ref am), (1, .int x1), (2, .int x2), (3, .int x3)]) (st' := [.int (lg_cmp v2 (G 21))]) [.lcmp] (by decide +kernel) rfl ?_
    refine zV_lcmp_ge (tgt := 37) (off := 7) (by decide +kernel) (by decide) (fun q => ?_) (fun q => ?_)
    · replace h := zif_pos q h
      clear q
      refine zV_blk (pc' := 38) (lo' := [(0, .ref am), (1, .int x1), (2, .int x2), (3, .int x3)]) (st' := [.int 0]) [.iconst 0] (by decide +kernel) rfl ?_
      obtain rfl := Option.some.inj h
      refine zV_eq (st2 := [.int (zb false)]) rfl rfl rfl rfl ?_
      exact zV_bret rfl (by decide +kernel) (hQ _ rfl)
    · replace h := zif_neg q h
      clear q
      refine zV_blk (pc' := 34) (lo' := [(0, .ref am), (1, .int x1), (2, .int x2), (3, .int x3)]) (st' := [.int 1]) [.iconst 1] (by decide +kernel) rfl ?_
      refine zV_goto (tgt := 38) (off := 4) (by decide +kernel) (by decide) ?_
      obtain rfl := Option.some.inj h
      refine zV_eq (st2 := [.int (zb true)]) rfl rfl rfl rfl ?_
      exact zV_bret rfl (by decide +kernel) (hQ _ rfl)

def misBehind (n : Nat) (G : Nat → Int64) (w : Nat → Int32) (x1 : Int32) (x2 : Int32) (x3 : Int32) : Option (Bool) := (misDate n w 3536 (x1 : Int32).toInt64 x2 x3).bind (fun v1 => (if v1 = true then (mnumberOf n w 3536 (x1 : Int32).toInt64 x2 x3).bind (fun v2 => (if ((v2 - (G 22)) : Int64) < ((G 21) : Int64) then some false else (misDay n w 3094 (v2 - (G 22))).bind (fun v3 => (if v3 = true then some true else some false)))) else some false))
theorem oX12_isBehind : zO yX12_isBehind cX12_isBehind 6 (some .boolean) 3 := ⟨zT_mem 2037 (by decide +kernel) rfl, zT_mem 94 (by decide +kernel) rfl, by decide +kernel, by decide +kernel, by decide +kernel⟩
set_option maxHeartbeats 4000000 in
set_option maxRecDepth 100000 in
theorem cmisBehind (s0 : State) (D : va_G) (cB cI cJ cD : ClassId) (am a1 a2 a3 : Nat) (F : Nat → Int32) (G : Nat → Int64) (tp w oc : Nat → Int32) (n : Nat) (x1 : Int32) (x2 : Int32) (x3 : Int32) (x : Bool) (h : misBehind n G w x1 x2 x3 = some x) : mR s0 D cB cI cJ cD am a1 a2 a3 yX12_isBehind cX12_isBehind 6 (some .boolean) 5 124 [.int x1, .int x2, .int x3] F G tp w oc (some (.int (zb x))) := by
  intro hi hm nx Q hW hQ0
  have hQ : ∀ r : Bool, x = r → Q (some (.int (zb r))) hi hm nx := fun r hr => by subst hr; exact hQ0
  refine zM_of (by decide +kernel) (Nat.le_of_ble_eq_true rfl) ?_
  unfold misBehind at h
  refine zV_eq (lo2 := [(0, .ref am), (1, .int x1), (2, .int x2), (3, .int x3)]) rfl rfl rfl rfl ?_
  refine zV_blk (pc' := 8) (lo' := [(0, .ref am), (1, .int x1), (2, .int x2), (3, .int x3)]) (st' := [.int x3, .int x2, .long (x1 : Int32).toInt64, .int 3536, .ref am]) [.aload_n 0, .sipush 3536, .iload_n 1, .i2l, .iload_n 2, .iload_n 3] (by decide +kernel) rfl ?_
  obtain ⟨v1, hv1, h⟩ := zbind h
  refine m_cR (idx := 337) (rest := []) hW (cmisDate s0 D cB cI cJ cD am a1 a2 a3 F G tp w oc n 3536 (x1 : Int32).toInt64 x2 x3 v1 hv1) oX12_isDate rfl (zT_mem 1868 (by decide +kernel) rfl) (zT_mem 1870 (by decide +kernel) rfl) (zT_mem 70 (by decide +kernel) rfl) rfl rfl (Nat.le_of_ble_eq_true rfl) ⟨by decide, by decide⟩ (by decide +kernel) ?_
  refine zV_eq (st2 := [.int (zb v1)]) rfl rfl rfl rfl ?_
  refine zV_bif_ne (tgt := 16) (off := 5) (by decide +kernel) (by decide) (fun q => ?_) (fun q => ?_)
  · replace h := zif_pos q h
    clear q
    refine zV_blk (pc' := 24) (lo' := [(0, .ref am), (1, .int x1), (2, .int x2), (3, .int x3)]) (st' := [.int x3, .int x2, .long (x1 : Int32).toInt64, .int 3536, .ref am]) [.aload_n 0, .sipush 3536, .iload_n 1, .i2l, .iload_n 2, .iload_n 3] (by decide +kernel) rfl ?_
    obtain ⟨v2, hv2, h⟩ := zbind h
    refine m_cR (idx := 341) (rest := []) hW (cmnumberOf s0 D cB cI cJ cD am a1 a2 a3 F G tp w oc n 3536 (x1 : Int32).toInt64 x2 x3 v2 hv2) oX12_numberOf rfl (zT_mem 1872 (by decide +kernel) rfl) (zT_mem 1874 (by decide +kernel) rfl) (zT_mem 71 (by decide +kernel) rfl) rfl rfl (Nat.le_of_ble_eq_true rfl) ⟨by decide, by decide⟩ (by decide +kernel) ?_
    refine zV_eq (st2 := [.long v2]) rfl rfl rfl rfl ?_
    refine zV_blk (pc' := 28) (lo' := [(0, .ref am), (1, .int x1), (2, .int x2), (3, .int x3)]) (st' := [.ref am, .long v2]) [.aload_n 0] (by decide +kernel) rfl ?_
    refine m_get (idx := 422) (k := 22) (v := .long (G 22)) hW m_in12 (by decide) (zT_mem 1462 (by decide +kernel) rfl) rfl (by decide +kernel) ?_
    refine zV_blk (pc' := 37) (lo' := [(4, .long (v2 - (G 22))), (0, .ref am), (1, .int x1), (2, .int x2), (3, .int x3)]) (st' := [.ref am, .long (v2 - (G 22))]) [.lsub, .lstore 4, .lload 4, .aload_n 0] (by decide +kernel) rfl ?_
    refine m_get (idx := 418) (k := 21) (v := .long (G 21)) hW m_in12 (by decide) (zT_mem 1461 (by decide +kernel) rfl) rfl (by decide +kernel) ?_
    refine zV_blk (pc' := 41) (lo' := [(4, .long (v2 - (G 22))), (0, .ref am), (1, .int x1), (2, .int x2), (3, .int x3)]) (st' := [.int (lg_cmp (v2 - (G 22)) (G 21))]) [.lcmp] (by decide +kernel) rfl ?_
    refine zV_lcmp_lt (tgt := 60) (off := 19) (by decide +kernel) (by decide) (fun q => ?_) (fun q => ?_)
    · replace h := zif_pos q h
      clear q
      refine zV_blk (pc' := 61) (lo' := [(4, .long (v2 - (G 22))), (0, .ref am), (1, .int x1), (2, .int x2), (3, .int x3)]) (st' := [.int 0]) [.iconst 0] (by decide +kernel) rfl ?_
      obtain rfl := Option.some.inj h
      refine zV_eq (st2 := [.int (zb false)]) rfl rfl rfl rfl ?_
      exact zV_bret rfl (by decide +kernel) (hQ _ rfl)
    · replace h := zif_neg q h
      clear q
      refine zV_blk (pc' := 50) (lo' := [(4, .long (v2 - (G 22))), (0, .ref am), (1, .int x1), (2, .int x2), (3, .int x3)]) (st' := [.long (v2 - (G 22)), .int 3094, .ref am]) [.aload_n 0, .sipush 3094, .lload 4] (by decide +kernel) rfl ?_
      obtain ⟨v3, hv3, h⟩ := zbind h
      refine m_cR (idx := 328) (rest := []) hW (cmisDay s0 D cB cI cJ cD am a1 a2 a3 F G tp w oc n 3094 (v2 - (G 22)) v3 hv3) oX12_isDay rfl (zT_mem 1845 (by decide +kernel) rfl) (zT_mem 1847 (by decide +kernel) rfl) (zT_mem 66 (by decide +kernel) rfl) rfl rfl (Nat.le_of_ble_eq_true rfl) ⟨by decide, by decide⟩ (by decide +kernel) ?_
      refine zV_eq (st2 := [.int (zb v3)]) rfl rfl rfl rfl ?_
      refine zV_bif_eq (tgt := 60) (off := 7) (by decide +kernel) (by decide) (fun q => ?_) (fun q => ?_)
      · replace h := zif_neg q h
        clear q
        refine zV_blk (pc' := 61) (lo' := [(4, .long (v2 - (G 22))), (0, .ref am), (1, .int x1), (2, .int x2), (3, .int x3)]) (st' := [.int 0]) [.iconst 0] (by decide +kernel) rfl ?_
        obtain rfl := Option.some.inj h
        refine zV_eq (st2 := [.int (zb false)]) rfl rfl rfl rfl ?_
        exact zV_bret rfl (by decide +kernel) (hQ _ rfl)
      · replace h := zif_pos q h
        clear q
        refine zV_blk (pc' := 57) (lo' := [(4, .long (v2 - (G 22))), (0, .ref am), (1, .int x1), (2, .int x2), (3, .int x3)]) (st' := [.int 1]) [.iconst 1] (by decide +kernel) rfl ?_
        refine zV_goto (tgt := 61) (off := 4) (by decide +kernel) (by decide) ?_
        obtain rfl := Option.some.inj h
        refine zV_eq (st2 := [.int (zb true)]) rfl rfl rfl rfl ?_
        exact zV_bret rfl (by decide +kernel) (hQ _ rfl)
  · replace h := zif_neg q h
    clear q
    refine zV_blk (pc' := 15) (lo' := [(0, .ref am), (1, .int x1), (2, .int x2), (3, .int x3)]) (st' := [.int 0]) [.iconst 0] (by decide +kernel) rfl ?_
    obtain rfl := Option.some.inj h
    refine zV_eq (st2 := [.int (zb false)]) rfl rfl rfl rfl ?_
    exact zV_bret rfl (by decide +kernel) (hQ _ rfl)

def moften (n : Nat) (F : Nat → Int32) (G : Nat → Int64) (w : Nat → Int32) (x1 : Int32) (x2 : Int32) (x3 : Int32) : Option (Int32 × (Nat → Int32)) := (if (((upd F 0 0) 20) : Int32) = (0 : Int32) then some ((-1), (upd F 0 0)) else (misAhead n G w x1 x2 x3).bind (fun v1 => (mflag (zb v1)).bind (fun v2 => (misBehind n G w x1 x2 x3).bind (fun v3 => (mflag (zb v3)).bind (fun v4 => some ((v2 + v4), (upd F 0 0)))))))
theorem oX12_often : zO yX12_often cX12_often 4 (some .int) 3 := ⟨zT_mem 2029 (by decide +kernel) rfl, zT_mem 94 (by decide +kernel) rfl, by decide +kernel, by decide +kernel, by decide +kernel⟩
set_option maxHeartbeats 4000000 in
set_option maxRecDepth 100000 in
theorem cmoften (s0 : State) (D : va_G) (cB cI cJ cD : ClassId) (am a1 a2 a3 : Nat) (F : Nat → Int32) (G : Nat → Int64) (tp w oc : Nat → Int32) (n : Nat) (x1 : Int32) (x2 : Int32) (x3 : Int32) (x : Int32 × (Nat → Int32)) (h : moften n F G w x1 x2 x3 = some x) : mC s0 D cB cI cJ cD am a1 a2 a3 yX12_often cX12_often 4 (some .int) 6 149 [.int x1, .int x2, .int x3] F G tp w oc (some (.int x.1)) x.2 G tp w oc := by
  intro hi hm nx Q hW hQ0
  have hQ : ∀ r : Int32 × (Nat → Int32), x = r → ∀ hm', mW cB cI am a1 a2 a3 r.2 G tp w oc hm' → mFr am a1 a2 a3 hm hm' → Q (some (.int r.1)) hi hm' nx := fun r hr => by subst hr; exact hQ0
  have hFr : mFr am a1 a2 a3 hm hm := mFr.rf
  clear hQ0
  refine zM_of (by decide +kernel) (Nat.le_of_ble_eq_true rfl) ?_
  unfold moften at h
  refine zV_eq (lo2 := [(0, .ref am), (1, .int x1), (2, .int x2), (3, .int x3)]) rfl rfl rfl rfl ?_
  refine zV_blk (pc' := 2) (lo' := [(0, .ref am), (1, .int x1), (2, .int x2), (3, .int x3)]) (st' := [.int 0, .ref am]) [.aload_n 0, .iconst 0] (by decide +kernel) rfl ?_
  refine m_put (idx := 25) (k := 0) (v := .int 0) (F' := (upd F 0 0)) (G' := G) hW m_in12 (by decide) (zT_mem 1440 (by decide +kernel) rfl) rfl rfl rfl rfl (by decide +kernel) (fun hm hW hFr2 => ?_)
  replace hFr := hFr.tr hFr2; clear hFr2
  refine zV_blk (pc' := 6) (lo' := [(0, .ref am), (1, .int x1), (2, .int x2), (3, .int x3)]) (st' := [.ref am]) [.aload_n 0] (by decide +kernel) rfl ?_
  refine m_get (idx := 425) (k := 20) (v := .int ((upd F 0 0) 20)) hW m_in12 (by decide) (zT_mem 1460 (by decide +kernel) rfl) rfl (by decide +kernel) ?_
  refine zV_if_eq (tgt := 36) (off := 27) (by decide +kernel) (by decide) (fun q => ?_) (fun q => ?_)
  · replace h := zif_pos q h
    clear q
    refine zV_blk (pc' := 37) (lo' := [(0, .ref am), (1, .int x1), (2, .int x2), (3, .int x3)]) (st' := [.int (-1)]) [.iconst (-1)] (by decide +kernel) rfl ?_
    obtain rfl := Option.some.inj h
    exact zV_iret rfl (by decide +kernel) (hQ _ rfl hm hW hFr)
  · replace h := zif_neg q h
    clear q
    refine zV_blk (pc' := 16) (lo' := [(0, .ref am), (1, .int x1), (2, .int x2), (3, .int x3)]) (st' := [.int x3, .int x2, .int x1, .ref am]) [.aload_n 0, .iload_n 1, .iload_n 2, .iload_n 3] (by decide +kernel) rfl ?_
    obtain ⟨v1, hv1, h⟩ := zbind h
    refine m_cR (idx := 429) (rest := []) hW (cmisAhead s0 D cB cI cJ cD am a1 a2 a3 (upd F 0 0) G tp w oc n x1 x2 x3 v1 hv1) oX12_isAhead rfl (zT_mem 2030 (by decide +kernel) rfl) (zT_mem 2032 (by decide +kernel) rfl) (zT_mem 82 (by decide +kernel) rfl) rfl rfl (Nat.le_of_ble_eq_true rfl) ⟨by decide, by decide⟩ (by decide +kernel) ?_
    refine zV_eq (st2 := [.int (zb v1)]) rfl rfl rfl rfl ?_
    obtain ⟨v2, hv2, h⟩ := zbind h
    refine zV_sC (idx := 321) (rest := []) (cmflag s0 D cB cI cJ cD (zb v1) v2 hv2) oX12_flag (zT_mem 1822 (by decide +kernel) rfl) (zT_mem 1823 (by decide +kernel) rfl) rfl rfl (Nat.le_of_ble_eq_true rfl) ⟨by decide, by decide⟩ (by decide +kernel) ?_
    refine zV_eq (st2 := [.int v2]) rfl rfl rfl rfl ?_
    refine zV_blk (pc' := 26) (lo' := [(0, .ref am), (1, .int x1), (2, .int x2), (3, .int x3)]) (st' := [.int x3, .int x2, .int x1, .ref am, .int v2]) [.aload_n 0, .iload_n 1, .iload_n 2, .iload_n 3] (by decide +kernel) rfl ?_
    obtain ⟨v3, hv3, h⟩ := zbind h
    refine m_cR (idx := 432) (rest := [.int v2]) hW (cmisBehind s0 D cB cI cJ cD am a1 a2 a3 (upd F 0 0) G tp w oc n x1 x2 x3 v3 hv3) oX12_isBehind rfl (zT_mem 2034 (by decide +kernel) rfl) (zT_mem 2036 (by decide +kernel) rfl) (zT_mem 83 (by decide +kernel) rfl) rfl rfl (Nat.le_of_ble_eq_true rfl) ⟨by decide, by decide⟩ (by decide +kernel) ?_
    refine zV_eq (st2 := [.int (zb v3), .int v2]) rfl rfl rfl rfl ?_
    obtain ⟨v4, hv4, h⟩ := zbind h
    refine zV_sC (idx := 321) (rest := [.int v2]) (cmflag s0 D cB cI cJ cD (zb v3) v4 hv4) oX12_flag (zT_mem 1822 (by decide +kernel) rfl) (zT_mem 1823 (by decide +kernel) rfl) rfl rfl (Nat.le_of_ble_eq_true rfl) ⟨by decide, by decide⟩ (by decide +kernel) ?_
    refine zV_eq (st2 := [.int v4, .int v2]) rfl rfl rfl rfl ?_
    refine zV_blk (pc' := 33) (lo' := [(0, .ref am), (1, .int x1), (2, .int x2), (3, .int x3)]) (st' := [.int (v2 + v4)]) [.iadd] (by decide +kernel) rfl ?_
    refine zV_goto (tgt := 37) (off := 4) (by decide +kernel) (by decide) ?_
    obtain rfl := Option.some.inj h
    exact zV_iret rfl (by decide +kernel) (hQ _ rfl hm hW hFr)

def mfirstOf (n : Nat) (G : Nat → Int64) (w : Nat → Int32) (x1 : Int32) (x2 : Int32) (x3 : Int32) : Option (Int64) := (misAhead n G w x1 x2 x3).bind (fun v1 => (if v1 = true then (mnumberOf n w 3094 (x1 : Int32).toInt64 x2 x3).bind (fun v4 => some v4) else (misBehind n G w x1 x2 x3).bind (fun v2 => (if v2 = true then (mnumberOf n w 3536 (x1 : Int32).toInt64 x2 x3).bind (fun v3 => some (v3 - (G 22))) else some (-1000000000000000)))))
theorem oX12_firstOf : zO yX12_firstOf cX12_firstOf 4 (some .long) 3 := ⟨zT_mem 2045 (by decide +kernel) rfl, zT_mem 94 (by decide +kernel) rfl, by decide +kernel, by decide +kernel, by decide +kernel⟩
set_option maxHeartbeats 4000000 in
set_option maxRecDepth 100000 in
theorem cmfirstOf (s0 : State) (D : va_G) (cB cI cJ cD : ClassId) (am a1 a2 a3 : Nat) (F : Nat → Int32) (G : Nat → Int64) (tp w oc : Nat → Int32) (n : Nat) (x1 : Int32) (x2 : Int32) (x3 : Int32) (x : Int64) (h : mfirstOf n G w x1 x2 x3 = some x) : mR s0 D cB cI cJ cD am a1 a2 a3 yX12_firstOf cX12_firstOf 4 (some .long) 6 149 [.int x1, .int x2, .int x3] F G tp w oc (some (.long x)) := by
  intro hi hm nx Q hW hQ0
  have hQ : ∀ r : Int64, x = r → Q (some (.long r)) hi hm nx := fun r hr => by subst hr; exact hQ0
  refine zM_of (by decide +kernel) (Nat.le_of_ble_eq_true rfl) ?_
  unfold mfirstOf at h
  refine zV_eq (lo2 := [(0, .ref am), (1, .int x1), (2, .int x2), (3, .int x3)]) rfl rfl rfl rfl ?_
  refine zV_blk (pc' := 4) (lo' := [(0, .ref am), (1, .int x1), (2, .int x2), (3, .int x3)]) (st' := [.int x3, .int x2, .int x1, .ref am]) [.aload_n 0, .iload_n 1, .iload_n 2, .iload_n 3] (by decide +kernel) rfl ?_
  obtain ⟨v1, hv1, h⟩ := zbind h
  refine m_cR (idx := 429) (rest := []) hW (cmisAhead s0 D cB cI cJ cD am a1 a2 a3 F G tp w oc n x1 x2 x3 v1 hv1) oX12_isAhead rfl (zT_mem 2030 (by decide +kernel) rfl) (zT_mem 2032 (by decide +kernel) rfl) (zT_mem 82 (by decide +kernel) rfl) rfl rfl (Nat.le_of_ble_eq_true rfl) ⟨by decide, by decide⟩ (by decide +kernel) ?_
  refine zV_eq (st2 := [.int (zb v1)]) rfl rfl rfl rfl ?_
  refine zV_bif_eq (tgt := 22) (off := 15) (by decide +kernel) (by decide) (fun q => ?_) (fun q => ?_)
  · replace h := zif_neg q h
    clear q
    refine zV_blk (pc' := 26) (lo' := [(0, .ref am), (1, .int x1), (2, .int x2), (3, .int x3)]) (st' := [.int x3, .int x2, .int x1, .ref am]) [.aload_n 0, .iload_n 1, .iload_n 2, .iload_n 3] (by decide +kernel) rfl ?_
    obtain ⟨v2, hv2, h⟩ := zbind h
    refine m_cR (idx := 432) (rest := []) hW (cmisBehind s0 D cB cI cJ cD am a1 a2 a3 F G tp w oc n x1 x2 x3 v2 hv2) oX12_isBehind rfl (zT_mem 2034 (by decide +kernel) rfl) (zT_mem 2036 (by decide +kernel) rfl) (zT_mem 83 (by decide +kernel) rfl) rfl rfl (Nat.le_of_ble_eq_true rfl) ⟨by decide, by decide⟩ (by decide +kernel) ?_
    refine zV_eq (st2 := [.int (zb v2)]) rfl rfl rfl rfl ?_
    refine zV_bif_eq (tgt := 51) (off := 22) (by decide +kernel) (by decide) (fun q => ?_) (fun q => ?_)
    · replace h := zif_neg q h
      clear q
      refine zV_ldc2 (idx := 40) (v := (-1000000000000000)) (zT_mem 1728 (by decide +kernel) rfl) (by decide +kernel) ?_
      obtain rfl := Option.some.inj h
      exact zV_lret rfl (by decide +kernel) (hQ _ rfl)
    · replace h := zif_pos q h
      clear q
      refine zV_blk (pc' := 40) (lo' := [(0, .ref am), (1, .int x1), (2, .int x2), (3, .int x3)]) (st' := [.int x3, .int x2, .long (x1 : Int32).toInt64, .int 3536, .ref am]) [.aload_n 0, .sipush 3536, .iload_n 1, .i2l, .iload_n 2, .iload_n 3] (by decide +kernel) rfl ?_
      obtain ⟨v3, hv3, h⟩ := zbind h
      refine m_cR (idx := 341) (rest := []) hW (cmnumberOf s0 D cB cI cJ cD am a1 a2 a3 F G tp w oc n 3536 (x1 : Int32).toInt64 x2 x3 v3 hv3) oX12_numberOf rfl (zT_mem 1872 (by decide +kernel) rfl) (zT_mem 1874 (by decide +kernel) rfl) (zT_mem 71 (by decide +kernel) rfl) rfl rfl (Nat.le_of_ble_eq_true rfl) ⟨by decide, by decide⟩ (by decide +kernel) ?_
      refine zV_eq (st2 := [.long v3]) rfl rfl rfl rfl ?_
      refine zV_blk (pc' := 44) (lo' := [(0, .ref am), (1, .int x1), (2, .int x2), (3, .int x3)]) (st' := [.ref am, .long v3]) [.aload_n 0] (by decide +kernel) rfl ?_
      refine m_get (idx := 422) (k := 22) (v := .long (G 22)) hW m_in12 (by decide) (zT_mem 1462 (by decide +kernel) rfl) rfl (by decide +kernel) ?_
      refine zV_blk (pc' := 48) (lo' := [(0, .ref am), (1, .int x1), (2, .int x2), (3, .int x3)]) (st' := [.long (v3 - (G 22))]) [.lsub] (by decide +kernel) rfl ?_
      refine zV_goto (tgt := 54) (off := 6) (by decide +kernel) (by decide) ?_
      obtain rfl := Option.some.inj h
      exact zV_lret rfl (by decide +kernel) (hQ _ rfl)
  · replace h := zif_pos q h
    clear q
    refine zV_blk (pc' := 18) (lo' := [(0, .ref am), (1, .int x1), (2, .int x2), (3, .int x3)]) (st' := [.int x3, .int x2, .long (x1 : Int32).toInt64, .int 3094, .ref am]) [.aload_n 0, .sipush 3094, .iload_n 1, .i2l, .iload_n 2, .iload_n 3] (by decide +kernel) rfl ?_
    obtain ⟨v4, hv4, h⟩ := zbind h
    refine m_cR (idx := 341) (rest := []) hW (cmnumberOf s0 D cB cI cJ cD am a1 a2 a3 F G tp w oc n 3094 (x1 : Int32).toInt64 x2 x3 v4 hv4) oX12_numberOf rfl (zT_mem 1872 (by decide +kernel) rfl) (zT_mem 1874 (by decide +kernel) rfl) (zT_mem 71 (by decide +kernel) rfl) rfl rfl (Nat.le_of_ble_eq_true rfl) ⟨by decide, by decide⟩ (by decide +kernel) ?_
    refine zV_eq (st2 := [.long v4]) rfl rfl rfl rfl ?_
    obtain rfl := Option.some.inj h
    exact zV_lret rfl (by decide +kernel) (hQ _ rfl)

def mspan_55 (n : Nat) (F : Nat → Int32) (G : Nat → Int64) (w : Nat → Int32) : Option (Int64 × (Nat → Int32)) := some ((-1000000000000000), F)
set_option maxHeartbeats 4000000 in
set_option maxRecDepth 100000 in
theorem cmspan_55 (s0 : State) (D : va_G) (cB cI cJ cD : ClassId) (am a1 a2 a3 : Nat) (F : Nat → Int32) (G : Nat → Int64) (tp w oc : Nat → Int32) (n : Nat) {hi hm : zHp} {nx : Nat} {Q : Option Value → zHp → zHp → Nat → Prop} {hm0 : zHp} {x : Int64 × (Nat → Int32)} (hW : mW cB cI am a1 a2 a3 F G tp w oc hm) (hFr : mFr am a1 a2 a3 hm0 hm) (h : mspan_55 n F G w = some x) (hQ : ∀ r : Int64 × (Nat → Int32), x = r → ∀ hm', mW cB cI am a1 a2 a3 r.2 G tp w oc hm' → mFr am a1 a2 a3 hm0 hm' → Q (some (.long r.1)) hi hm' nx) : zV s0 D (zty cB cI cJ cD) yX12_span cX12_span 11 (some .long) 7 172 0 0 55 [] [] hi hm nx Q := by
  unfold mspan_55 at h
  refine zV_ldc2 (idx := 40) (v := (-1000000000000000)) (zT_mem 1728 (by decide +kernel) rfl) (by decide +kernel) ?_
  refine zV_goto (tgt := 66) (off := 8) (by decide +kernel) (by decide) ?_
  obtain rfl := Option.some.inj h
  exact zV_lret rfl (by decide +kernel) (hQ _ rfl hm hW hFr)
def mspan (n : Nat) (F : Nat → Int32) (G : Nat → Int64) (w : Nat → Int32) (x1 : Int32) (x2 : Int32) (x3 : Int32) (x4 : Int32) (x5 : Int32) (x6 : Int32) : Option (Int64 × (Nat → Int32)) := (if (((upd F 0 0) 20) : Int32) = (0 : Int32) then some ((-1000000000000000), (upd F 0 0)) else (mfirstOf n G w x1 x2 x3).bind (fun v1 => (mfirstOf n G w x4 x5 x6).bind (fun v2 => (if (v1 : Int64) = ((-1000000000000000) : Int64) then (mspan_55 n (upd F 0 0) G w) else (if (v2 : Int64) = ((-1000000000000000) : Int64) then (mspan_55 n (upd F 0 0) G w) else some ((v2 - v1), (upd F 0 0)))))))
theorem oX12_span : zO yX12_span cX12_span 11 (some .long) 6 := ⟨zT_mem 2041 (by decide +kernel) rfl, zT_mem 94 (by decide +kernel) rfl, by decide +kernel, by decide +kernel, by decide +kernel⟩
set_option maxHeartbeats 4000000 in
set_option maxRecDepth 100000 in
theorem cmspan (s0 : State) (D : va_G) (cB cI cJ cD : ClassId) (am a1 a2 a3 : Nat) (F : Nat → Int32) (G : Nat → Int64) (tp w oc : Nat → Int32) (n : Nat) (x1 : Int32) (x2 : Int32) (x3 : Int32) (x4 : Int32) (x5 : Int32) (x6 : Int32) (x : Int64 × (Nat → Int32)) (h : mspan n F G w x1 x2 x3 x4 x5 x6 = some x) : mC s0 D cB cI cJ cD am a1 a2 a3 yX12_span cX12_span 11 (some .long) 7 172 [.int x1, .int x2, .int x3, .int x4, .int x5, .int x6] F G tp w oc (some (.long x.1)) x.2 G tp w oc := by
  intro hi hm nx Q hW hQ0
  have hQ : ∀ r : Int64 × (Nat → Int32), x = r → ∀ hm', mW cB cI am a1 a2 a3 r.2 G tp w oc hm' → mFr am a1 a2 a3 hm hm' → Q (some (.long r.1)) hi hm' nx := fun r hr => by subst hr; exact hQ0
  have hFr : mFr am a1 a2 a3 hm hm := mFr.rf
  clear hQ0
  refine zM_of (by decide +kernel) (Nat.le_of_ble_eq_true rfl) ?_
  unfold mspan at h
  refine zV_eq (lo2 := [(0, .ref am), (1, .int x1), (2, .int x2), (3, .int x3), (4, .int x4), (5, .int x5), (6, .int x6)]) rfl rfl rfl rfl ?_
  refine zV_blk (pc' := 2) (lo' := [(0, .ref am), (1, .int x1), (2, .int x2), (3, .int x3), (4, .int x4), (5, .int x5), (6, .int x6)]) (st' := [.int 0, .ref am]) [.aload_n 0, .iconst 0] (by decide +kernel) rfl ?_
  refine m_put (idx := 25) (k := 0) (v := .int 0) (F' := (upd F 0 0)) (G' := G) hW m_in12 (by decide) (zT_mem 1440 (by decide +kernel) rfl) rfl rfl rfl rfl (by decide +kernel) (fun hm hW hFr2 => ?_)
  replace hFr := hFr.tr hFr2; clear hFr2
  refine zV_blk (pc' := 6) (lo' := [(0, .ref am), (1, .int x1), (2, .int x2), (3, .int x3), (4, .int x4), (5, .int x5), (6, .int x6)]) (st' := [.ref am]) [.aload_n 0] (by decide +kernel) rfl ?_
  refine m_get (idx := 425) (k := 20) (v := .int ((upd F 0 0) 20)) hW m_in12 (by decide) (zT_mem 1460 (by decide +kernel) rfl) rfl (by decide +kernel) ?_
  refine zV_if_ne (tgt := 16) (off := 7) (by decide +kernel) (by decide) (fun q => ?_) (fun q => ?_)
  · replace h := zif_neg q h
    clear q
    refine zV_blk (pc' := 20) (lo' := [(0, .ref am), (1, .int x1), (2, .int x2), (3, .int x3), (4, .int x4), (5, .int x5), (6, .int x6)]) (st' := [.int x3, .int x2, .int x1, .ref am]) [.aload_n 0, .iload_n 1, .iload_n 2, .iload_n 3] (by decide +kernel) rfl ?_
    obtain ⟨v1, hv1, h⟩ := zbind h
    refine m_cR (idx := 435) (rest := []) hW (cmfirstOf s0 D cB cI cJ cD am a1 a2 a3 (upd F 0 0) G tp w oc n x1 x2 x3 v1 hv1) oX12_firstOf rfl (zT_mem 2042 (by decide +kernel) rfl) (zT_mem 2044 (by decide +kernel) rfl) (zT_mem 84 (by decide +kernel) rfl) rfl rfl (Nat.le_of_ble_eq_true rfl) ⟨by decide, by decide⟩ (by decide +kernel) ?_
    refine zV_eq (st2 := [.long v1]) rfl rfl rfl rfl ?_
    refine zV_blk (pc' := 32) (lo' := [(7, .long v1), (0, .ref am), (1, .int x1), (2, .int x2), (3, .int x3), (4, .int x4), (5, .int x5), (6, .int x6)]) (st' := [.int x6, .int x5, .int x4, .ref am]) [.lstore 7, .aload_n 0, .iload 4, .iload 5, .iload 6] (by decide +kernel) rfl ?_
    obtain ⟨v2, hv2, h⟩ := zbind h
    refine m_cR (idx := 435) (rest := []) hW (cmfirstOf s0 D cB cI cJ cD am a1 a2 a3 (upd F 0 0) G tp w oc n x4 x5 x6 v2 hv2) oX12_firstOf rfl (zT_mem 2042 (by decide +kernel) rfl) (zT_mem 2044 (by decide +kernel) rfl) (zT_mem 84 (by decide +kernel) rfl) rfl rfl (Nat.le_of_ble_eq_true rfl) ⟨by decide, by decide⟩ (by decide +kernel) ?_
    refine zV_eq (st2 := [.long v2]) rfl rfl rfl rfl ?_
    refine zV_blk (pc' := 39) (lo' := [(9, .long v2), (7, .long v1), (0, .ref am), (1, .int x1), (2, .int x2), (3, .int x3), (4, .int x4), (5, .int x5), (6, .int x6)]) (st' := [.long v1]) [.lstore 9, .lload 7] (by decide +kernel) rfl ?_
    refine zV_ldc2 (idx := 40) (v := (-1000000000000000)) (zT_mem 1728 (by decide +kernel) rfl) (by decide +kernel) ?_
    refine zV_blk (pc' := 43) (lo' := [(9, .long v2), (7, .long v1), (0, .ref am), (1, .int x1), (2, .int x2), (3, .int x3), (4, .int x4), (5, .int x5), (6, .int x6)]) (st' := [.int (lg_cmp v1 (-1000000000000000))]) [.lcmp] (by decide +kernel) rfl ?_
    refine zV_lcmp_eq (tgt := 55) (off := 12) (by decide +kernel) (by decide) (fun q => ?_) (fun q => ?_)
    · replace h := zif_pos q h
      clear q
      refine zV_pick (lo2 := []) [] rfl ?_
      exact cmspan_55 s0 D cB cI cJ cD am a1 a2 a3 (upd F 0 0) G tp w oc n  hW hFr h hQ
    · replace h := zif_neg q h
      clear q
      refine zV_blk (pc' := 48) (lo' := [(9, .long v2), (7, .long v1), (0, .ref am), (1, .int x1), (2, .int x2), (3, .int x3), (4, .int x4), (5, .int x5), (6, .int x6)]) (st' := [.long v2]) [.lload 9] (by decide +kernel) rfl ?_
      refine zV_ldc2 (idx := 40) (v := (-1000000000000000)) (zT_mem 1728 (by decide +kernel) rfl) (by decide +kernel) ?_
      refine zV_blk (pc' := 52) (lo' := [(9, .long v2), (7, .long v1), (0, .ref am), (1, .int x1), (2, .int x2), (3, .int x3), (4, .int x4), (5, .int x5), (6, .int x6)]) (st' := [.int (lg_cmp v2 (-1000000000000000))]) [.lcmp] (by decide +kernel) rfl ?_
      refine zV_lcmp_ne (tgt := 61) (off := 9) (by decide +kernel) (by decide) (fun q => ?_) (fun q => ?_)
      · replace h := zif_neg q h
        clear q
        refine zV_blk (pc' := 66) (lo' := [(9, .long v2), (7, .long v1), (0, .ref am), (1, .int x1), (2, .int x2), (3, .int x3), (4, .int x4), (5, .int x5), (6, .int x6)]) (st' := [.long (v2 - v1)]) [.lload 9, .lload 7, .lsub] (by decide +kernel) rfl ?_
        obtain rfl := Option.some.inj h
        exact zV_lret rfl (by decide +kernel) (hQ _ rfl hm hW hFr)
      · replace h := zif_pos q h
        clear q
        refine zV_pick (lo2 := []) [] rfl ?_
        exact cmspan_55 s0 D cB cI cJ cD am a1 a2 a3 (upd F 0 0) G tp w oc n  hW hFr h hQ
  · replace h := zif_pos q h
    clear q
    refine zV_ldc2 (idx := 40) (v := (-1000000000000000)) (zT_mem 1728 (by decide +kernel) rfl) (by decide +kernel) ?_
    obtain rfl := Option.some.inj h
    exact zV_lret rfl (by decide +kernel) (hQ _ rfl hm hW hFr)

def mareLike_3 (n : Nat) (w : Nat → Int32) (x1 : Int32) (x2 : Int32) (x3 : Int32) (s : Int32) : Option ((Int32) ⊕ (Bool)) := zck (zin ((x1 + 8)) 35802) ((if ((w ((x1 + 8) : Int32).toNatClampNeg) : Int32) ≤ (s : Int32) then some (.inr true) else (misLeap n w x1 (s : Int32).toInt64).bind (fun v1 => (misLeap n w x2 ((s + x3) : Int32).toInt64).bind (fun v2 => (if ((zb v1) : Int32) = ((zb v2) : Int32) then some (.inl (s + 1)) else some (.inr false))))))
set_option maxHeartbeats 4000000 in
set_option maxRecDepth 100000 in
theorem cmareLike_3 (s0 : State) (D : va_G) (cB cI cJ cD : ClassId) (am a1 a2 a3 : Nat) (F : Nat → Int32) (G : Nat → Int64) (tp : Nat → Int32) (w : Nat → Int32) (oc : Nat → Int32) (n : Nat) (x1 : Int32) (x2 : Int32) (x3 : Int32) (s : Int32) (x : (Int32) ⊕ (Bool)) {hi hm : zHp} {nx : Nat} {Q : Option Value → zHp → zHp → Nat → Prop} (hW : mW cB cI am a1 a2 a3 F G tp w oc hm) (h : mareLike_3 n w x1 x2 x3 s = some x) (hL3 : ∀ s : Int32, x = (.inl s) → zV s0 D (zty cB cI cJ cD) yX12_areLike cX12_areLike 5 (some .boolean) 3 72 0 0 3 [(0, .ref am), (1, .int x1), (2, .int x2), (3, .int x3), (4, .int s)] [] hi hm nx Q) (hQ : ∀ r : Bool, x = (.inr r) → Q (some (.int (zb r))) hi hm nx) : zV s0 D (zty cB cI cJ cD) yX12_areLike cX12_areLike 5 (some .boolean) 3 72 0 0 3 [(0, .ref am), (1, .int x1), (2, .int x2), (3, .int x3), (4, .int s)] [] hi hm nx Q := by
  unfold mareLike_3 at h
  refine zV_blk (pc' := 6) (lo' := [(0, .ref am), (1, .int x1), (2, .int x2), (3, .int x3), (4, .int s)]) (st' := [.ref am, .int s]) [.iload 4, .aload_n 0] (by decide +kernel) rfl ?_
  refine m_get (idx := 18) (k := 12) (v := .ref a2) hW m_in12 (by decide) (zT_mem 1452 (by decide +kernel) rfl) rfl (by decide +kernel) ?_
  refine zV_blk (pc' := 13) (lo' := [(0, .ref am), (1, .int x1), (2, .int x2), (3, .int x3), (4, .int s)]) (st' := [.int (x1 + 8), .ref a2, .int s]) [.iload_n 1, .bipush 8, .iadd] (by decide +kernel) rfl ?_
  obtain ⟨hz, h⟩ := zck_some h
  refine m_wld hW hz (by decide +kernel) ?_
  refine zV_icmp_ge (tgt := 46) (off := 32) (by decide +kernel) (by decide) (fun q => ?_) (fun q => ?_)
  · replace h := zif_pos q h
    clear q
    refine zV_blk (pc' := 47) (lo' := [(0, .ref am), (1, .int x1), (2, .int x2), (3, .int x3), (4, .int s)]) (st' := [.int 1]) [.iconst 1] (by decide +kernel) rfl ?_
    obtain rfl := Option.some.inj h
    refine zV_eq (st2 := [.int (zb true)]) rfl rfl rfl rfl ?_
    exact zV_bret rfl (by decide +kernel) (hQ _ rfl)
  · replace h := zif_neg q h
    clear q
    refine zV_blk (pc' := 22) (lo' := [(0, .ref am), (1, .int x1), (2, .int x2), (3, .int x3), (4, .int s)]) (st' := [.long (s : Int32).toInt64, .int x1, .ref am]) [.aload_n 0, .iload_n 1, .iload 4, .i2l] (by decide +kernel) rfl ?_
    obtain ⟨v1, hv1, h⟩ := zbind h
    refine m_cR (idx := 236) (rest := []) hW (cmisLeap s0 D cB cI cJ cD am a1 a2 a3 F G tp w oc n x1 (s : Int32).toInt64 v1 hv1) oX12_isLeap rfl (zT_mem 1805 (by decide +kernel) rfl) (zT_mem 1807 (by decide +kernel) rfl) (zT_mem 64 (by decide +kernel) rfl) rfl rfl (Nat.le_of_ble_eq_true rfl) ⟨by decide, by decide⟩ (by decide +kernel) ?_
    refine zV_eq (st2 := [.int (zb v1)]) rfl rfl rfl rfl ?_
    refine zV_blk (pc' := 32) (lo' := [(0, .ref am), (1, .int x1), (2, .int x2), (3, .int x3), (4, .int s)]) (st' := [.long ((s + x3) : Int32).toInt64, .int x2, .ref am, .int (zb v1)]) [.aload_n 0, .iload_n 2, .iload 4, .iload_n 3, .iadd, .i2l] (by decide +kernel) rfl ?_
    obtain ⟨v2, hv2, h⟩ := zbind h
    refine m_cR (idx := 236) (rest := [.int (zb v1)]) hW (cmisLeap s0 D cB cI cJ cD am a1 a2 a3 F G tp w oc n x2 ((s + x3) : Int32).toInt64 v2 hv2) oX12_isLeap rfl (zT_mem 1805 (by decide +kernel) rfl) (zT_mem 1807 (by decide +kernel) rfl) (zT_mem 64 (by decide +kernel) rfl) rfl rfl (Nat.le_of_ble_eq_true rfl) ⟨by decide, by decide⟩ (by decide +kernel) ?_
    refine zV_eq (st2 := [.int (zb v2), .int (zb v1)]) rfl rfl rfl rfl ?_
    refine zV_icmp_eq (tgt := 40) (off := 5) (by decide +kernel) (by decide) (fun q => ?_) (fun q => ?_)
    · replace h := zif_pos q h
      clear q
      refine zV_blk (pc' := 43) (lo' := [(4, .int (s + 1)), (0, .ref am), (1, .int x1), (2, .int x2), (3, .int x3)]) (st' := []) [.iinc 4 1] (by decide +kernel) rfl ?_
      refine zV_goto (tgt := 3) (off := -40) (by decide +kernel) (by decide) ?_
      obtain rfl := Option.some.inj h
      refine zV_pick (lo2 := [(0, .ref am), (1, .int x1), (2, .int x2), (3, .int x3), (4, .int (s + 1))]) [1, 2, 3, 4, 0] rfl ?_
      exact hL3 _ rfl
    · replace h := zif_neg q h
      clear q
      refine zV_blk (pc' := 39) (lo' := [(0, .ref am), (1, .int x1), (2, .int x2), (3, .int x3), (4, .int s)]) (st' := [.int 0]) [.iconst 0] (by decide +kernel) rfl ?_
      obtain rfl := Option.some.inj h
      refine zV_eq (st2 := [.int (zb false)]) rfl rfl rfl rfl ?_
      exact zV_bret rfl (by decide +kernel) (hQ _ rfl)
theorem cmareLike_3L (s0 : State) (D : va_G) (cB cI cJ cD : ClassId) (am a1 a2 a3 : Nat) (F : Nat → Int32) (G : Nat → Int64) (tp : Nat → Int32) (w : Nat → Int32) (oc : Nat → Int32) (n : Nat) (x1 : Int32) (x2 : Int32) (x3 : Int32) : ∀ (k : Nat) (s : Int32) {hi hm : zHp} {nx : Nat} {Q : Option Value → zHp → zHp → Nat → Prop} (_ : mW cB cI am a1 a2 a3 F G tp w oc hm) {x : Bool} (_ : zloop (mareLike_3 n w x1 x2 x3) k s = some x) (hQ : ∀ r : Bool, x = r → Q (some (.int (zb r))) hi hm nx), zV s0 D (zty cB cI cJ cD) yX12_areLike cX12_areLike 5 (some .boolean) 3 72 0 0 3 [(0, .ref am), (1, .int x1), (2, .int x2), (3, .int x3), (4, .int s)] [] hi hm nx Q
  | 0, s, _, _, _, _, hW, _, h, _ => by cases h
  | k + 1, s, hi, hm, nx, Q, hW, x, h, hQ => by
    obtain ⟨z, hz, h1, h2⟩ := zloop_succ h
    exact cmareLike_3 s0 D cB cI cJ cD am a1 a2 a3 F G tp w oc n x1 x2 x3 s z hW hz (fun s' hs => cmareLike_3L s0 D cB cI cJ cD am a1 a2 a3 F G tp w oc n x1 x2 x3 k s' hW (h1 s' hs) hQ) (fun r hr => hQ r (h2 _ hr).symm)
def mareLike (n : Nat) (w : Nat → Int32) (x1 : Int32) (x2 : Int32) (x3 : Int32) : Option (Bool) := (zloop (mareLike_3 n w x1 x2 x3) n 0)
theorem oX12_areLike : zO yX12_areLike cX12_areLike 5 (some .boolean) 3 := ⟨zT_mem 2053 (by decide +kernel) rfl, zT_mem 94 (by decide +kernel) rfl, by decide +kernel, by decide +kernel, by decide +kernel⟩
set_option maxHeartbeats 4000000 in
set_option maxRecDepth 100000 in
theorem cmareLike (s0 : State) (D : va_G) (cB cI cJ cD : ClassId) (am a1 a2 a3 : Nat) (F : Nat → Int32) (G : Nat → Int64) (tp w oc : Nat → Int32) (n : Nat) (x1 : Int32) (x2 : Int32) (x3 : Int32) (x : Bool) (h : mareLike n w x1 x2 x3 = some x) : mR s0 D cB cI cJ cD am a1 a2 a3 yX12_areLike cX12_areLike 5 (some .boolean) 3 72 [.int x1, .int x2, .int x3] F G tp w oc (some (.int (zb x))) := by
  intro hi hm nx Q hW hQ0
  have hQ : ∀ r : Bool, x = r → Q (some (.int (zb r))) hi hm nx := fun r hr => by subst hr; exact hQ0
  refine zM_of (by decide +kernel) (Nat.le_of_ble_eq_true rfl) ?_
  unfold mareLike at h
  refine zV_eq (lo2 := [(0, .ref am), (1, .int x1), (2, .int x2), (3, .int x3)]) rfl rfl rfl rfl ?_
  refine zV_blk (pc' := 3) (lo' := [(4, .int 0), (0, .ref am), (1, .int x1), (2, .int x2), (3, .int x3)]) (st' := []) [.iconst 0, .istore 4] (by decide +kernel) rfl ?_
  refine zV_pick (lo2 := [(0, .ref am), (1, .int x1), (2, .int x2), (3, .int x3), (4, .int 0)]) [1, 2, 3, 4, 0] rfl ?_
  exact cmareLike_3L s0 D cB cI cJ cD am a1 a2 a3 F G tp w oc n x1 x2 x3 n 0 hW h hQ

