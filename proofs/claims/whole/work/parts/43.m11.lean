def mdrop (n : Nat) (F : Nat → Int32) (w : Nat → Int32) (x1 : Int32) : Option (Int32 × (Nat → Int32) × (Nat → Int32)) := (misThere w x1).bind (fun v1 => (if v1 = true then (mchangesNow n (upd F 0 0) w).bind (fun v2 => (mbank x1).bind (fun v3 => zck (zin ((v3 + 0)) 35802) ((mhowMany n (upd v2.2 ((v3 + 0) : Int32).toNatClampNeg 0)).bind (fun v4 => some (v4, v2.1, (upd v2.2 ((v3 + 0) : Int32).toNatClampNeg 0)))))) else some ((-2), (upd F 0 0), w)))
theorem oX12_drop : zO yX12_drop cX12_drop 2 (some .int) 1 := ⟨zT_mem 1753 (by decide +kernel) rfl, zT_mem 94 (by decide +kernel) rfl, by decide +kernel, by decide +kernel, by decide +kernel⟩
set_option maxHeartbeats 4000000 in
set_option maxRecDepth 100000 in
theorem cmdrop (s0 : State) (D : va_G) (cB cI cJ cD : ClassId) (am a1 a2 a3 : Nat) (F : Nat → Int32) (G : Nat → Int64) (tp w oc : Nat → Int32) (n : Nat) (x1 : Int32) (x : Int32 × (Nat → Int32) × (Nat → Int32)) (h : mdrop n F w x1 = some x) : mC s0 D cB cI cJ cD am a1 a2 a3 yX12_drop cX12_drop 2 (some .int) 2 46 [.int x1] F G tp w oc (some (.int x.1)) x.2.1 G tp x.2.2 oc := by
  intro hi hm nx Q hW hQ0
  have hQ : ∀ r : Int32 × (Nat → Int32) × (Nat → Int32), x = r → ∀ hm', mW cB cI am a1 a2 a3 r.2.1 G tp r.2.2 oc hm' → mFr am a1 a2 a3 hm hm' → Q (some (.int r.1)) hi hm' nx := fun r hr => by subst hr; exact hQ0
  have hFr : mFr am a1 a2 a3 hm hm := mFr.rf
  clear hQ0
  refine zM_of (by decide +kernel) (Nat.le_of_ble_eq_true rfl) ?_
  unfold mdrop at h
  refine zV_eq (lo2 := [(0, .ref am), (1, .int x1)]) rfl rfl rfl rfl ?_
  refine zV_blk (pc' := 2) (lo' := [(0, .ref am), (1, .int x1)]) (st' := [.int 0, .ref am]) [.aload_n 0, .iconst 0] (by decide +kernel) rfl ?_
  refine m_put (idx := 25) (k := 0) (v := .int 0) (F' := (upd F 0 0)) (G' := G) hW m_in12 (by decide) (zT_mem 1440 (by decide +kernel) rfl) rfl rfl rfl rfl (by decide +kernel) (fun hm hW hFr2 => ?_)
  replace hFr := hFr.tr hFr2; clear hFr2
  refine zV_blk (pc' := 7) (lo' := [(0, .ref am), (1, .int x1)]) (st' := [.int x1, .ref am]) [.aload_n 0, .iload_n 1] (by decide +kernel) rfl ?_
  obtain ⟨v1, hv1, h⟩ := zbind h
  refine m_cR (idx := 273) (rest := []) hW (cmisThere s0 D cB cI cJ cD am a1 a2 a3 (upd F 0 0) G tp w oc x1 v1 hv1) oX12_isThere rfl (zT_mem 1686 (by decide +kernel) rfl) (zT_mem 1688 (by decide +kernel) rfl) (zT_mem 49 (by decide +kernel) rfl) rfl rfl (Nat.le_of_ble_eq_true rfl) ⟨by decide, by decide⟩ (by decide +kernel) ?_
  refine zV_eq (st2 := [.int (zb v1)]) rfl rfl rfl rfl ?_
  refine zV_bif_ne (tgt := 16) (off := 6) (by decide +kernel) (by decide) (fun q => ?_) (fun q => ?_)
  · replace h := zif_pos q h
    clear q
    refine zV_blk (pc' := 17) (lo' := [(0, .ref am), (1, .int x1)]) (st' := [.ref am]) [.aload_n 0] (by decide +kernel) rfl ?_
    obtain ⟨v2, hv2, h⟩ := zbind h
    refine m_cC (idx := 223) (rest := []) hW (cmchangesNow s0 D cB cI cJ cD am a1 a2 a3 (upd F 0 0) G tp w oc n  v2 hv2) oX12_changesNow rfl (zT_mem 1667 (by decide +kernel) rfl) (zT_mem 1669 (by decide +kernel) rfl) (zT_mem 47 (by decide +kernel) rfl) rfl rfl (Nat.le_of_ble_eq_true rfl) ⟨by decide, by decide⟩ (by decide +kernel) (fun hm hW hFr2 => ?_)
    replace hFr := hFr.tr hFr2; clear hFr2
    refine zV_eq (st2 := []) rfl rfl rfl rfl ?_
    refine zV_blk (pc' := 21) (lo' := [(0, .ref am), (1, .int x1)]) (st' := [.ref am]) [.aload_n 0] (by decide +kernel) rfl ?_
    refine m_get (idx := 18) (k := 12) (v := .ref a2) hW m_in12 (by decide) (zT_mem 1452 (by decide +kernel) rfl) rfl (by decide +kernel) ?_
    refine zV_blk (pc' := 25) (lo' := [(0, .ref am), (1, .int x1)]) (st' := [.int x1, .ref a2]) [.iload_n 1] (by decide +kernel) rfl ?_
    obtain ⟨v3, hv3, h⟩ := zbind h
    refine zV_sC (idx := 118) (rest := [.ref a2]) (cmbank s0 D cB cI cJ cD x1 v3 hv3) oX12_bank (zT_mem 1671 (by decide +kernel) rfl) (zT_mem 1672 (by decide +kernel) rfl) rfl rfl (Nat.le_of_ble_eq_true rfl) ⟨by decide, by decide⟩ (by decide +kernel) ?_
    refine zV_eq (st2 := [.int v3, .ref a2]) rfl rfl rfl rfl ?_
    refine zV_blk (pc' := 31) (lo' := [(0, .ref am), (1, .int x1)]) (st' := [.int 0, .int (v3 + 0), .ref a2]) [.iconst 0, .iadd, .iconst 0] (by decide +kernel) rfl ?_
    obtain ⟨hz, h⟩ := zck_some h
    refine m_wst hW hz (by decide +kernel) (fun hm hW hFr2 => ?_)
    replace hFr := hFr.tr hFr2; clear hFr2
    refine zV_blk (pc' := 33) (lo' := [(0, .ref am), (1, .int x1)]) (st' := [.ref am]) [.aload_n 0] (by decide +kernel) rfl ?_
    obtain ⟨v4, hv4, h⟩ := zbind h
    refine m_cR (idx := 279) (rest := []) hW (cmhowMany s0 D cB cI cJ cD am a1 a2 a3 v2.1 G tp (upd v2.2 ((v3 + 0) : Int32).toNatClampNeg 0) oc n  v4 hv4) oX12_howMany rfl (zT_mem 1708 (by decide +kernel) rfl) (zT_mem 1710 (by decide +kernel) rfl) (zT_mem 52 (by decide +kernel) rfl) rfl rfl (Nat.le_of_ble_eq_true rfl) ⟨by decide, by decide⟩ (by decide +kernel) ?_
    refine zV_eq (st2 := [.int v4]) rfl rfl rfl rfl ?_
    obtain rfl := Option.some.inj h
    exact zV_iret rfl (by decide +kernel) (hQ _ rfl hm hW hFr)
  · replace h := zif_neg q h
    clear q
    refine zV_blk (pc' := 15) (lo' := [(0, .ref am), (1, .int x1)]) (st' := [.int (-2)]) [.bipush (-2)] (by decide +kernel) rfl ?_
    obtain rfl := Option.some.inj h
    exact zV_iret rfl (by decide +kernel) (hQ _ rfl hm hW hFr)

def mshift (n : Nat) (F : Nat → Int32) (w : Nat → Int32) (x1 : Int32) (x2 : Int32) : Option (Int32 × (Nat → Int32) × (Nat → Int32)) := (misThere w x1).bind (fun v1 => (if v1 = true then (mbank x1).bind (fun v2 => zck (zin ((v2 + 3)) 35802) ((if ((w ((v2 + 3) : Int32).toNatClampNeg) : Int32) = (1 : Int32) then zck (zin ((v2 + 10)) 35802) ((misIn (x2 : Int32).toInt64 0 (((w ((v2 + 10) : Int32).toNatClampNeg) - 1) : Int32).toInt64).bind (fun v3 => (if v3 = true then (mchangesNow n (upd F 0 0) w).bind (fun v4 => zck (zin ((v2 + 11)) 35802) (zck (zin ((v2 + 11)) 35802) (some ((v4.2 ((v2 + 11) : Int32).toNatClampNeg), v4.1, (upd v4.2 ((v2 + 11) : Int32).toNatClampNeg x2))))) else some ((-2), (upd F 0 0), w)))) else some ((-3), (upd F 0 0), w)))) else some ((-2), (upd F 0 0), w)))
theorem oX12_shift : zO yX12_shift cX12_shift 5 (some .int) 2 := ⟨zT_mem 1757 (by decide +kernel) rfl, zT_mem 94 (by decide +kernel) rfl, by decide +kernel, by decide +kernel, by decide +kernel⟩
set_option maxHeartbeats 4000000 in
set_option maxRecDepth 100000 in
theorem cmshift (s0 : State) (D : va_G) (cB cI cJ cD : ClassId) (am a1 a2 a3 : Nat) (F : Nat → Int32) (G : Nat → Int64) (tp w oc : Nat → Int32) (n : Nat) (x1 : Int32) (x2 : Int32) (x : Int32 × (Nat → Int32) × (Nat → Int32)) (h : mshift n F w x1 x2 = some x) : mC s0 D cB cI cJ cD am a1 a2 a3 yX12_shift cX12_shift 5 (some .int) 2 46 [.int x1, .int x2] F G tp w oc (some (.int x.1)) x.2.1 G tp x.2.2 oc := by
  intro hi hm nx Q hW hQ0
  have hQ : ∀ r : Int32 × (Nat → Int32) × (Nat → Int32), x = r → ∀ hm', mW cB cI am a1 a2 a3 r.2.1 G tp r.2.2 oc hm' → mFr am a1 a2 a3 hm hm' → Q (some (.int r.1)) hi hm' nx := fun r hr => by subst hr; exact hQ0
  have hFr : mFr am a1 a2 a3 hm hm := mFr.rf
  clear hQ0
  refine zM_of (by decide +kernel) (Nat.le_of_ble_eq_true rfl) ?_
  unfold mshift at h
  refine zV_eq (lo2 := [(0, .ref am), (1, .int x1), (2, .int x2)]) rfl rfl rfl rfl ?_
  refine zV_blk (pc' := 2) (lo' := [(0, .ref am), (1, .int x1), (2, .int x2)]) (st' := [.int 0, .ref am]) [.aload_n 0, .iconst 0] (by decide +kernel) rfl ?_
  refine m_put (idx := 25) (k := 0) (v := .int 0) (F' := (upd F 0 0)) (G' := G) hW m_in12 (by decide) (zT_mem 1440 (by decide +kernel) rfl) rfl rfl rfl rfl (by decide +kernel) (fun hm hW hFr2 => ?_)
  replace hFr := hFr.tr hFr2; clear hFr2
  refine zV_blk (pc' := 7) (lo' := [(0, .ref am), (1, .int x1), (2, .int x2)]) (st' := [.int x1, .ref am]) [.aload_n 0, .iload_n 1] (by decide +kernel) rfl ?_
  obtain ⟨v1, hv1, h⟩ := zbind h
  refine m_cR (idx := 273) (rest := []) hW (cmisThere s0 D cB cI cJ cD am a1 a2 a3 (upd F 0 0) G tp w oc x1 v1 hv1) oX12_isThere rfl (zT_mem 1686 (by decide +kernel) rfl) (zT_mem 1688 (by decide +kernel) rfl) (zT_mem 49 (by decide +kernel) rfl) rfl rfl (Nat.le_of_ble_eq_true rfl) ⟨by decide, by decide⟩ (by decide +kernel) ?_
  refine zV_eq (st2 := [.int (zb v1)]) rfl rfl rfl rfl ?_
  refine zV_bif_ne (tgt := 16) (off := 6) (by decide +kernel) (by decide) (fun q => ?_) (fun q => ?_)
  · replace h := zif_pos q h
    clear q
    refine zV_blk (pc' := 17) (lo' := [(0, .ref am), (1, .int x1), (2, .int x2)]) (st' := [.int x1]) [.iload_n 1] (by decide +kernel) rfl ?_
    obtain ⟨v2, hv2, h⟩ := zbind h
    refine zV_sC (idx := 118) (rest := []) (cmbank s0 D cB cI cJ cD x1 v2 hv2) oX12_bank (zT_mem 1671 (by decide +kernel) rfl) (zT_mem 1672 (by decide +kernel) rfl) rfl rfl (Nat.le_of_ble_eq_true rfl) ⟨by decide, by decide⟩ (by decide +kernel) ?_
    refine zV_eq (st2 := [.int v2]) rfl rfl rfl rfl ?_
    refine zV_blk (pc' := 22) (lo' := [(3, .int v2), (0, .ref am), (1, .int x1), (2, .int x2)]) (st' := [.ref am]) [.istore_n 3, .aload_n 0] (by decide +kernel) rfl ?_
    refine m_get (idx := 18) (k := 12) (v := .ref a2) hW m_in12 (by decide) (zT_mem 1452 (by decide +kernel) rfl) rfl (by decide +kernel) ?_
    refine zV_blk (pc' := 28) (lo' := [(3, .int v2), (0, .ref am), (1, .int x1), (2, .int x2)]) (st' := [.int (v2 + 3), .ref a2]) [.iload_n 3, .iconst 3, .iadd] (by decide +kernel) rfl ?_
    obtain ⟨hz, h⟩ := zck_some h
    refine m_wld hW hz (by decide +kernel) ?_
    refine zV_blk (pc' := 30) (lo' := [(3, .int v2), (0, .ref am), (1, .int x1), (2, .int x2)]) (st' := [.int 1, .int (w ((v2 + 3) : Int32).toNatClampNeg)]) [.iconst 1] (by decide +kernel) rfl ?_
    refine zV_icmp_eq (tgt := 36) (off := 6) (by decide +kernel) (by decide) (fun q => ?_) (fun q => ?_)
    · replace h := zif_pos q h
      clear q
      refine zV_blk (pc' := 40) (lo' := [(3, .int v2), (0, .ref am), (1, .int x1), (2, .int x2)]) (st' := [.ref am, .long 0, .long (x2 : Int32).toInt64]) [.iload_n 2, .i2l, .lconst 0, .aload_n 0] (by decide +kernel) rfl ?_
      refine m_get (idx := 18) (k := 12) (v := .ref a2) hW m_in12 (by decide) (zT_mem 1452 (by decide +kernel) rfl) rfl (by decide +kernel) ?_
      refine zV_blk (pc' := 47) (lo' := [(3, .int v2), (0, .ref am), (1, .int x1), (2, .int x2)]) (st' := [.int (v2 + 10), .ref a2, .long 0, .long (x2 : Int32).toInt64]) [.iload_n 3, .bipush 10, .iadd] (by decide +kernel) rfl ?_
      obtain ⟨hz, h⟩ := zck_some h
      refine m_wld hW hz (by decide +kernel) ?_
      refine zV_blk (pc' := 51) (lo' := [(3, .int v2), (0, .ref am), (1, .int x1), (2, .int x2)]) (st' := [.long (((w ((v2 + 10) : Int32).toNatClampNeg) - 1) : Int32).toInt64, .long 0, .long (x2 : Int32).toInt64]) [.iconst 1, .isub, .i2l] (by decide +kernel) rfl ?_
      obtain ⟨v3, hv3, h⟩ := zbind h
      refine zV_sC (idx := 36) (rest := []) (cmisIn s0 D cB cI cJ cD (x2 : Int32).toInt64 0 (((w ((v2 + 10) : Int32).toNatClampNeg) - 1) : Int32).toInt64 v3 hv3) oX12_isIn (zT_mem 1531 (by decide +kernel) rfl) (zT_mem 1532 (by decide +kernel) rfl) rfl rfl (Nat.le_of_ble_eq_true rfl) ⟨by decide, by decide⟩ (by decide +kernel) ?_
      refine zV_eq (st2 := [.int (zb v3)]) rfl rfl rfl rfl ?_
      refine zV_bif_ne (tgt := 60) (off := 6) (by decide +kernel) (by decide) (fun q => ?_) (fun q => ?_)
      · replace h := zif_pos q h
        clear q
        refine zV_blk (pc' := 61) (lo' := [(3, .int v2), (0, .ref am), (1, .int x1), (2, .int x2)]) (st' := [.ref am]) [.aload_n 0] (by decide +kernel) rfl ?_
        obtain ⟨v4, hv4, h⟩ := zbind h
        refine m_cC (idx := 223) (rest := []) hW (cmchangesNow s0 D cB cI cJ cD am a1 a2 a3 (upd F 0 0) G tp w oc n  v4 hv4) oX12_changesNow rfl (zT_mem 1667 (by decide +kernel) rfl) (zT_mem 1669 (by decide +kernel) rfl) (zT_mem 47 (by decide +kernel) rfl) rfl rfl (Nat.le_of_ble_eq_true rfl) ⟨by decide, by decide⟩ (by decide +kernel) (fun hm hW hFr2 => ?_)
        replace hFr := hFr.tr hFr2; clear hFr2
        refine zV_eq (st2 := []) rfl rfl rfl rfl ?_
        refine zV_blk (pc' := 65) (lo' := [(3, .int v2), (0, .ref am), (1, .int x1), (2, .int x2)]) (st' := [.ref am]) [.aload_n 0] (by decide +kernel) rfl ?_
        refine m_get (idx := 18) (k := 12) (v := .ref a2) hW m_in12 (by decide) (zT_mem 1452 (by decide +kernel) rfl) rfl (by decide +kernel) ?_
        refine zV_blk (pc' := 72) (lo' := [(3, .int v2), (0, .ref am), (1, .int x1), (2, .int x2)]) (st' := [.int (v2 + 11), .ref a2]) [.iload_n 3, .bipush 11, .iadd] (by decide +kernel) rfl ?_
        obtain ⟨hz, h⟩ := zck_some h
        refine m_wld hW hz (by decide +kernel) ?_
        refine zV_blk (pc' := 76) (lo' := [(4, .int (v4.2 ((v2 + 11) : Int32).toNatClampNeg)), (3, .int v2), (0, .ref am), (1, .int x1), (2, .int x2)]) (st' := [.ref am]) [.istore 4, .aload_n 0] (by decide +kernel) rfl ?_
        refine m_get (idx := 18) (k := 12) (v := .ref a2) hW m_in12 (by decide) (zT_mem 1452 (by decide +kernel) rfl) rfl (by decide +kernel) ?_
        refine zV_blk (pc' := 84) (lo' := [(4, .int (v4.2 ((v2 + 11) : Int32).toNatClampNeg)), (3, .int v2), (0, .ref am), (1, .int x1), (2, .int x2)]) (st' := [.int x2, .int (v2 + 11), .ref a2]) [.iload_n 3, .bipush 11, .iadd, .iload_n 2] (by decide +kernel) rfl ?_
        obtain ⟨hz, h⟩ := zck_some h
        refine m_wst hW hz (by decide +kernel) (fun hm hW hFr2 => ?_)
        replace hFr := hFr.tr hFr2; clear hFr2
        refine zV_blk (pc' := 87) (lo' := [(4, .int (v4.2 ((v2 + 11) : Int32).toNatClampNeg)), (3, .int v2), (0, .ref am), (1, .int x1), (2, .int x2)]) (st' := [.int (v4.2 ((v2 + 11) : Int32).toNatClampNeg)]) [.iload 4] (by decide +kernel) rfl ?_
        obtain rfl := Option.some.inj h
        exact zV_iret rfl (by decide +kernel) (hQ _ rfl hm hW hFr)
      · replace h := zif_neg q h
        clear q
        refine zV_blk (pc' := 59) (lo' := [(3, .int v2), (0, .ref am), (1, .int x1), (2, .int x2)]) (st' := [.int (-2)]) [.bipush (-2)] (by decide +kernel) rfl ?_
        obtain rfl := Option.some.inj h
        exact zV_iret rfl (by decide +kernel) (hQ _ rfl hm hW hFr)
    · replace h := zif_neg q h
      clear q
      refine zV_blk (pc' := 35) (lo' := [(3, .int v2), (0, .ref am), (1, .int x1), (2, .int x2)]) (st' := [.int (-3)]) [.bipush (-3)] (by decide +kernel) rfl ?_
      obtain rfl := Option.some.inj h
      exact zV_iret rfl (by decide +kernel) (hQ _ rfl hm hW hFr)
  · replace h := zif_neg q h
    clear q
    refine zV_blk (pc' := 15) (lo' := [(0, .ref am), (1, .int x1), (2, .int x2)]) (st' := [.int (-2)]) [.bipush (-2)] (by decide +kernel) rfl ?_
    obtain rfl := Option.some.inj h
    exact zV_iret rfl (by decide +kernel) (hQ _ rfl hm hW hFr)

def mtruth (n : Nat) (F : Nat → Int32) (w : Nat → Int32) (x1 : Int32) (x2 : Int32) (x3 : Int32) (x4 : Int32) : Option (Int32 × (Nat → Int32) × (Nat → Int32)) := (misThere w x1).bind (fun v1 => (if v1 = true then (misIn (x2 : Int32).toInt64 0 999).bind (fun v2 => (if v2 = true then (misIn (x4 : Int32).toInt64 1 1000000).bind (fun v3 => (if v3 = true then (misIn (x3 : Int32).toInt64 0 ((x4 - 1) : Int32).toInt64).bind (fun v4 => (if v4 = true then (mchangesNow n (upd F 0 0) w).bind (fun v5 => (mbank x1).bind (fun v6 => zck (zin ((v6 + 12)) 35802) ((mbank x1).bind (fun v7 => zck (zin ((v7 + 13)) 35802) ((mbank x1).bind (fun v8 => zck (zin ((v8 + 14)) 35802) (some (1, v5.1, (upd (upd (upd v5.2 ((v6 + 12) : Int32).toNatClampNeg x2) ((v7 + 13) : Int32).toNatClampNeg x3) ((v8 + 14) : Int32).toNatClampNeg x4))))))))) else some ((-2), (upd F 0 0), w))) else some ((-2), (upd F 0 0), w))) else some ((-2), (upd F 0 0), w))) else some ((-2), (upd F 0 0), w)))
theorem oX12_truth : zO yX12_truth cX12_truth 5 (some .int) 4 := ⟨zT_mem 1761 (by decide +kernel) rfl, zT_mem 94 (by decide +kernel) rfl, by decide +kernel, by decide +kernel, by decide +kernel⟩
set_option maxHeartbeats 4000000 in
set_option maxRecDepth 100000 in
theorem cmtruth (s0 : State) (D : va_G) (cB cI cJ cD : ClassId) (am a1 a2 a3 : Nat) (F : Nat → Int32) (G : Nat → Int64) (tp w oc : Nat → Int32) (n : Nat) (x1 : Int32) (x2 : Int32) (x3 : Int32) (x4 : Int32) (x : Int32 × (Nat → Int32) × (Nat → Int32)) (h : mtruth n F w x1 x2 x3 x4 = some x) : mC s0 D cB cI cJ cD am a1 a2 a3 yX12_truth cX12_truth 5 (some .int) 2 46 [.int x1, .int x2, .int x3, .int x4] F G tp w oc (some (.int x.1)) x.2.1 G tp x.2.2 oc := by
  intro hi hm nx Q hW hQ0
  have hQ : ∀ r : Int32 × (Nat → Int32) × (Nat → Int32), x = r → ∀ hm', mW cB cI am a1 a2 a3 r.2.1 G tp r.2.2 oc hm' → mFr am a1 a2 a3 hm hm' → Q (some (.int r.1)) hi hm' nx := fun r hr => by subst hr; exact hQ0
  have hFr : mFr am a1 a2 a3 hm hm := mFr.rf
  clear hQ0
  refine zM_of (by decide +kernel) (Nat.le_of_ble_eq_true rfl) ?_
  unfold mtruth at h
  refine zV_eq (lo2 := [(0, .ref am), (1, .int x1), (2, .int x2), (3, .int x3), (4, .int x4)]) rfl rfl rfl rfl ?_
  refine zV_blk (pc' := 2) (lo' := [(0, .ref am), (1, .int x1), (2, .int x2), (3, .int x3), (4, .int x4)]) (st' := [.int 0, .ref am]) [.aload_n 0, .iconst 0] (by decide +kernel) rfl ?_
  refine m_put (idx := 25) (k := 0) (v := .int 0) (F' := (upd F 0 0)) (G' := G) hW m_in12 (by decide) (zT_mem 1440 (by decide +kernel) rfl) rfl rfl rfl rfl (by decide +kernel) (fun hm hW hFr2 => ?_)
  replace hFr := hFr.tr hFr2; clear hFr2
  refine zV_blk (pc' := 7) (lo' := [(0, .ref am), (1, .int x1), (2, .int x2), (3, .int x3), (4, .int x4)]) (st' := [.int x1, .ref am]) [.aload_n 0, .iload_n 1] (by decide +kernel) rfl ?_
  obtain ⟨v1, hv1, h⟩ := zbind h
  refine m_cR (idx := 273) (rest := []) hW (cmisThere s0 D cB cI cJ cD am a1 a2 a3 (upd F 0 0) G tp w oc x1 v1 hv1) oX12_isThere rfl (zT_mem 1686 (by decide +kernel) rfl) (zT_mem 1688 (by decide +kernel) rfl) (zT_mem 49 (by decide +kernel) rfl) rfl rfl (Nat.le_of_ble_eq_true rfl) ⟨by decide, by decide⟩ (by decide +kernel) ?_
  refine zV_eq (st2 := [.int (zb v1)]) rfl rfl rfl rfl ?_
  refine zV_bif_eq (tgt := 52) (off := 42) (by decide +kernel) (by decide) (fun q => ?_) (fun q => ?_)
  · replace h := zif_neg q h
    clear q
    refine zV_blk (pc' := 54) (lo' := [(0, .ref am), (1, .int x1), (2, .int x2), (3, .int x3), (4, .int x4)]) (st' := [.int (-2)]) [.bipush (-2)] (by decide +kernel) rfl ?_
    obtain rfl := Option.some.inj h
    exact zV_iret rfl (by decide +kernel) (hQ _ rfl hm hW hFr)
  · replace h := zif_pos q h
    clear q
    refine zV_blk (pc' := 16) (lo' := [(0, .ref am), (1, .int x1), (2, .int x2), (3, .int x3), (4, .int x4)]) (st' := [.long 0, .long (x2 : Int32).toInt64]) [.iload_n 2, .i2l, .lconst 0] (by decide +kernel) rfl ?_
    refine zV_ldc2 (idx := 290) (v := 999) (zT_mem 1762 (by decide +kernel) rfl) (by decide +kernel) ?_
    obtain ⟨v2, hv2, h⟩ := zbind h
    refine zV_sC (idx := 36) (rest := []) (cmisIn s0 D cB cI cJ cD (x2 : Int32).toInt64 0 999 v2 hv2) oX12_isIn (zT_mem 1531 (by decide +kernel) rfl) (zT_mem 1532 (by decide +kernel) rfl) rfl rfl (Nat.le_of_ble_eq_true rfl) ⟨by decide, by decide⟩ (by decide +kernel) ?_
    refine zV_eq (st2 := [.int (zb v2)]) rfl rfl rfl rfl ?_
    refine zV_bif_eq (tgt := 52) (off := 30) (by decide +kernel) (by decide) (fun q => ?_) (fun q => ?_)
    · replace h := zif_neg q h
      clear q
      refine zV_blk (pc' := 54) (lo' := [(0, .ref am), (1, .int x1), (2, .int x2), (3, .int x3), (4, .int x4)]) (st' := [.int (-2)]) [.bipush (-2)] (by decide +kernel) rfl ?_
      obtain rfl := Option.some.inj h
      exact zV_iret rfl (by decide +kernel) (hQ _ rfl hm hW hFr)
    · replace h := zif_pos q h
      clear q
      refine zV_blk (pc' := 29) (lo' := [(0, .ref am), (1, .int x1), (2, .int x2), (3, .int x3), (4, .int x4)]) (st' := [.long 1, .long (x4 : Int32).toInt64]) [.iload 4, .i2l, .lconst 1] (by decide +kernel) rfl ?_
      refine zV_ldc2 (idx := 292) (v := 1000000) (zT_mem 1763 (by decide +kernel) rfl) (by decide +kernel) ?_
      obtain ⟨v3, hv3, h⟩ := zbind h
      refine zV_sC (idx := 36) (rest := []) (cmisIn s0 D cB cI cJ cD (x4 : Int32).toInt64 1 1000000 v3 hv3) oX12_isIn (zT_mem 1531 (by decide +kernel) rfl) (zT_mem 1532 (by decide +kernel) rfl) rfl rfl (Nat.le_of_ble_eq_true rfl) ⟨by decide, by decide⟩ (by decide +kernel) ?_
      refine zV_eq (st2 := [.int (zb v3)]) rfl rfl rfl rfl ?_
      refine zV_bif_eq (tgt := 52) (off := 17) (by decide +kernel) (by decide) (fun q => ?_) (fun q => ?_)
      · replace h := zif_neg q h
        clear q
        refine zV_blk (pc' := 54) (lo' := [(0, .ref am), (1, .int x1), (2, .int x2), (3, .int x3), (4, .int x4)]) (st' := [.int (-2)]) [.bipush (-2)] (by decide +kernel) rfl ?_
        obtain rfl := Option.some.inj h
        exact zV_iret rfl (by decide +kernel) (hQ _ rfl hm hW hFr)
      · replace h := zif_pos q h
        clear q
        refine zV_blk (pc' := 46) (lo' := [(0, .ref am), (1, .int x1), (2, .int x2), (3, .int x3), (4, .int x4)]) (st' := [.long ((x4 - 1) : Int32).toInt64, .long 0, .long (x3 : Int32).toInt64]) [.iload_n 3, .i2l, .lconst 0, .iload 4, .iconst 1, .isub, .i2l] (by decide +kernel) rfl ?_
        obtain ⟨v4, hv4, h⟩ := zbind h
        refine zV_sC (idx := 36) (rest := []) (cmisIn s0 D cB cI cJ cD (x3 : Int32).toInt64 0 ((x4 - 1) : Int32).toInt64 v4 hv4) oX12_isIn (zT_mem 1531 (by decide +kernel) rfl) (zT_mem 1532 (by decide +kernel) rfl) rfl rfl (Nat.le_of_ble_eq_true rfl) ⟨by decide, by decide⟩ (by decide +kernel) ?_
        refine zV_eq (st2 := [.int (zb v4)]) rfl rfl rfl rfl ?_
        refine zV_bif_ne (tgt := 55) (off := 6) (by decide +kernel) (by decide) (fun q => ?_) (fun q => ?_)
        · replace h := zif_pos q h
          clear q
          refine zV_blk (pc' := 56) (lo' := [(0, .ref am), (1, .int x1), (2, .int x2), (3, .int x3), (4, .int x4)]) (st' := [.ref am]) [.aload_n 0] (by decide +kernel) rfl ?_
          obtain ⟨v5, hv5, h⟩ := zbind h
          refine m_cC (idx := 223) (rest := []) hW (cmchangesNow s0 D cB cI cJ cD am a1 a2 a3 (upd F 0 0) G tp w oc n  v5 hv5) oX12_changesNow rfl (zT_mem 1667 (by decide +kernel) rfl) (zT_mem 1669 (by decide +kernel) rfl) (zT_mem 47 (by decide +kernel) rfl) rfl rfl (Nat.le_of_ble_eq_true rfl) ⟨by decide, by decide⟩ (by decide +kernel) (fun hm hW hFr2 => ?_)
          replace hFr := hFr.tr hFr2; clear hFr2
          refine zV_eq (st2 := []) rfl rfl rfl rfl ?_
          refine zV_blk (pc' := 60) (lo' := [(0, .ref am), (1, .int x1), (2, .int x2), (3, .int x3), (4, .int x4)]) (st' := [.ref am]) [.aload_n 0] (by decide +kernel) rfl ?_
          refine m_get (idx := 18) (k := 12) (v := .ref a2) hW m_in12 (by decide) (zT_mem 1452 (by decide +kernel) rfl) rfl (by decide +kernel) ?_
          refine zV_blk (pc' := 64) (lo' := [(0, .ref am), (1, .int x1), (2, .int x2), (3, .int x3), (4, .int x4)]) (st' := [.int x1, .ref a2]) [.iload_n 1] (by decide +kernel) rfl ?_
          obtain ⟨v6, hv6, h⟩ := zbind h
          refine zV_sC (idx := 118) (rest := [.ref a2]) (cmbank s0 D cB cI cJ cD x1 v6 hv6) oX12_bank (zT_mem 1671 (by decide +kernel) rfl) (zT_mem 1672 (by decide +kernel) rfl) rfl rfl (Nat.le_of_ble_eq_true rfl) ⟨by decide, by decide⟩ (by decide +kernel) ?_
          refine zV_eq (st2 := [.int v6, .ref a2]) rfl rfl rfl rfl ?_
          refine zV_blk (pc' := 71) (lo' := [(0, .ref am), (1, .int x1), (2, .int x2), (3, .int x3), (4, .int x4)]) (st' := [.int x2, .int (v6 + 12), .ref a2]) [.bipush 12, .iadd, .iload_n 2] (by decide +kernel) rfl ?_
          obtain ⟨hz, h⟩ := zck_some h
          refine m_wst hW hz (by decide +kernel) (fun hm hW hFr2 => ?_)
          replace hFr := hFr.tr hFr2; clear hFr2
          refine zV_blk (pc' := 73) (lo' := [(0, .ref am), (1, .int x1), (2, .int x2), (3, .int x3), (4, .int x4)]) (st' := [.ref am]) [.aload_n 0] (by decide +kernel) rfl ?_
          refine m_get (idx := 18) (k := 12) (v := .ref a2) hW m_in12 (by decide) (zT_mem 1452 (by decide +kernel) rfl) rfl (by decide +kernel) ?_
          refine zV_blk (pc' := 77) (lo' := [(0, .ref am), (1, .int x1), (2, .int x2), (3, .int x3), (4, .int x4)]) (st' := [.int x1, .ref a2]) [.iload_n 1] (by decide +kernel) rfl ?_
          obtain ⟨v7, hv7, h⟩ := zbind h
          refine zV_sC (idx := 118) (rest := [.ref a2]) (cmbank s0 D cB cI cJ cD x1 v7 hv7) oX12_bank (zT_mem 1671 (by decide +kernel) rfl) (zT_mem 1672 (by decide +kernel) rfl) rfl rfl (Nat.le_of_ble_eq_true rfl) ⟨by decide, by decide⟩ (by decide +kernel) ?_
          refine zV_eq (st2 := [.int v7, .ref a2]) rfl rfl rfl rfl ?_
          refine zV_blk (pc' := 84) (lo' := [(0, .ref am), (1, .int x1), (2, .int x2), (3, .int x3), (4, .int x4)]) (st' := [.int x3, .int (v7 + 13), .ref a2]) [.bipush 13, .iadd, .iload_n 3] (by decide +kernel) rfl ?_
          obtain ⟨hz, h⟩ := zck_some h
          refine m_wst hW hz (by decide +kernel) (fun hm hW hFr2 => ?_)
          replace hFr := hFr.tr hFr2; clear hFr2
          refine zV_blk (pc' := 86) (lo' := [(0, .ref am), (1, .int x1), (2, .int x2), (3, .int x3), (4, .int x4)]) (st' := [.ref am]) [.aload_n 0] (by decide +kernel) rfl ?_
          refine m_get (idx := 18) (k := 12) (v := .ref a2) hW m_in12 (by decide) (zT_mem 1452 (by decide +kernel) rfl) rfl (by decide +kernel) ?_
          refine zV_blk (pc' := 90) (lo' := [(0, .ref am), (1, .int x1), (2, .int x2), (3, .int x3), (4, .int x4)]) (st' := [.int x1, .ref a2]) [.iload_n 1] (by decide +kernel) rfl ?_
          obtain ⟨v8, hv8, h⟩ := zbind h
          refine zV_sC (idx := 118) (rest := [.ref a2]) (cmbank s0 D cB cI cJ cD x1 v8 hv8) oX12_bank (zT_mem 1671 (by decide +kernel) rfl) (zT_mem 1672 (by decide +kernel) rfl) rfl rfl (Nat.le_of_ble_eq_true rfl) ⟨by decide, by decide⟩ (by decide +kernel) ?_
          refine zV_eq (st2 := [.int v8, .ref a2]) rfl rfl rfl rfl ?_
          refine zV_blk (pc' := 98) (lo' := [(0, .ref am), (1, .int x1), (2, .int x2), (3, .int x3), (4, .int x4)]) (st' := [.int x4, .int (v8 + 14), .ref a2]) [.bipush 14, .iadd, .iload 4] (by decide +kernel) rfl ?_
          obtain ⟨hz, h⟩ := zck_some h
          refine m_wst hW hz (by decide +kernel) (fun hm hW hFr2 => ?_)
          replace hFr := hFr.tr hFr2; clear hFr2
          refine zV_blk (pc' := 100) (lo' := [(0, .ref am), (1, .int x1), (2, .int x2), (3, .int x3), (4, .int x4)]) (st' := [.int 1]) [.iconst 1] (by decide +kernel) rfl ?_
          obtain rfl := Option.some.inj h
          exact zV_iret rfl (by decide +kernel) (hQ _ rfl hm hW hFr)
        · replace h := zif_neg q h
          clear q
          refine zV_blk (pc' := 54) (lo' := [(0, .ref am), (1, .int x1), (2, .int x2), (3, .int x3), (4, .int x4)]) (st' := [.int (-2)]) [.bipush (-2)] (by decide +kernel) rfl ?_
          obtain rfl := Option.some.inj h
          exact zV_iret rfl (by decide +kernel) (hQ _ rfl hm hW hFr)

def mundo_31 (n : Nat) (F : Nat → Int32) (x1 : Int32) (s : Int32 × (Nat → Int32)) : Option ((Int32 × (Nat → Int32)) ⊕ (Int32 × (Nat → Int32) × (Nat → Int32))) := (if (x1 : Int32) ≤ (s.1 : Int32) then some (.inr ((F 14), F, s.2)) else zck (zin (((3978 + (x1 * (F 14))) + s.1)) 35802) (zck (zin (s.1) 35802) (some (.inl ((s.1 + 1), (upd s.2 (s.1 : Int32).toNatClampNeg (s.2 (((3978 + (x1 * (F 14))) + s.1) : Int32).toNatClampNeg)))))))
set_option maxHeartbeats 4000000 in
set_option maxRecDepth 100000 in
theorem cmundo_31 (s0 : State) (D : va_G) (cB cI cJ cD : ClassId) (am a1 a2 a3 : Nat) (F : Nat → Int32) (G : Nat → Int64) (tp : Nat → Int32) (oc : Nat → Int32) (n : Nat) (x1 : Int32) (s : Int32 × (Nat → Int32)) (x : (Int32 × (Nat → Int32)) ⊕ (Int32 × (Nat → Int32) × (Nat → Int32))) {hi hm : zHp} {nx : Nat} {Q : Option Value → zHp → zHp → Nat → Prop} {hm0 : zHp} (hW : mW cB cI am a1 a2 a3 F G tp s.2 oc hm) (hFr : mFr am a1 a2 a3 hm0 hm) (h : mundo_31 n F x1 s = some x) (hL31 : ∀ s : Int32 × (Nat → Int32), x = (.inl s) → ∀ hm', mW cB cI am a1 a2 a3 F G tp s.2 oc hm' → mFr am a1 a2 a3 hm0 hm' → zV s0 D (zty cB cI cJ cD) yX12_undo cX12_undo 3 (some .int) 0 0 0 0 31 [(0, .ref am), (1, .int x1), (2, .int s.1)] [] hi hm' nx Q) (hQ : ∀ r : Int32 × (Nat → Int32) × (Nat → Int32), x = (.inr r) → ∀ hm', mW cB cI am a1 a2 a3 r.2.1 G tp r.2.2 oc hm' → mFr am a1 a2 a3 hm0 hm' → Q (some (.int r.1)) hi hm' nx) : zV s0 D (zty cB cI cJ cD) yX12_undo cX12_undo 3 (some .int) 0 0 0 0 31 [(0, .ref am), (1, .int x1), (2, .int s.1)] [] hi hm nx Q := by
  unfold mundo_31 at h
  refine zV_blk (pc' := 33) (lo' := [(0, .ref am), (1, .int x1), (2, .int s.1)]) (st' := [.int x1, .int s.1]) [.iload_n 2, .iload_n 1] (by decide +kernel) rfl ?_
  refine zV_icmp_ge (tgt := 65) (off := 32) (by decide +kernel) (by decide) (fun q => ?_) (fun q => ?_)
  · replace h := zif_pos q h
    clear q
    refine zV_blk (pc' := 66) (lo' := [(0, .ref am), (1, .int x1), (2, .int s.1)]) (st' := [.ref am]) [.aload_n 0] (by decide +kernel) rfl ?_
    refine m_get (idx := 205) (k := 14) (v := .int (F 14)) hW m_in12 (by decide) (zT_mem 1454 (by decide +kernel) rfl) rfl (by decide +kernel) ?_
    obtain rfl := Option.some.inj h
    exact zV_iret rfl (by decide +kernel) (hQ _ rfl hm hW hFr)
  · replace h := zif_neg q h
    clear q
    refine zV_blk (pc' := 37) (lo' := [(0, .ref am), (1, .int x1), (2, .int s.1)]) (st' := [.ref am]) [.aload_n 0] (by decide +kernel) rfl ?_
    refine m_get (idx := 18) (k := 12) (v := .ref a2) hW m_in12 (by decide) (zT_mem 1452 (by decide +kernel) rfl) rfl (by decide +kernel) ?_
    refine zV_blk (pc' := 42) (lo' := [(0, .ref am), (1, .int x1), (2, .int s.1)]) (st' := [.ref am, .int s.1, .ref a2]) [.iload_n 2, .aload_n 0] (by decide +kernel) rfl ?_
    refine m_get (idx := 18) (k := 12) (v := .ref a2) hW m_in12 (by decide) (zT_mem 1452 (by decide +kernel) rfl) rfl (by decide +kernel) ?_
    refine zV_blk (pc' := 50) (lo' := [(0, .ref am), (1, .int x1), (2, .int s.1)]) (st' := [.ref am, .int x1, .int 3978, .ref a2, .int s.1, .ref a2]) [.sipush 3978, .iload_n 1, .aload_n 0] (by decide +kernel) rfl ?_
    refine m_get (idx := 205) (k := 14) (v := .int (F 14)) hW m_in12 (by decide) (zT_mem 1454 (by decide +kernel) rfl) rfl (by decide +kernel) ?_
    refine zV_blk (pc' := 57) (lo' := [(0, .ref am), (1, .int x1), (2, .int s.1)]) (st' := [.int ((3978 + (x1 * (F 14))) + s.1), .ref a2, .int s.1, .ref a2]) [.imul, .iadd, .iload_n 2, .iadd] (by decide +kernel) rfl ?_
    obtain ⟨hz, h⟩ := zck_some h
    refine m_wld hW hz (by decide +kernel) ?_
    obtain ⟨hz, h⟩ := zck_some h
    refine m_wst hW hz (by decide +kernel) (fun hm hW hFr2 => ?_)
    replace hFr := hFr.tr hFr2; clear hFr2
    refine zV_blk (pc' := 62) (lo' := [(2, .int (s.1 + 1)), (0, .ref am), (1, .int x1)]) (st' := []) [.iinc 2 1] (by decide +kernel) rfl ?_
    refine zV_goto (tgt := 31) (off := -31) (by decide +kernel) (by decide) ?_
    obtain rfl := Option.some.inj h
    refine zV_pick (lo2 := [(0, .ref am), (1, .int x1), (2, .int (s.1 + 1))]) [1, 2, 0] rfl ?_
    exact hL31 _ rfl hm hW hFr
theorem cmundo_31L (s0 : State) (D : va_G) (cB cI cJ cD : ClassId) (am a1 a2 a3 : Nat) (F : Nat → Int32) (G : Nat → Int64) (tp : Nat → Int32) (oc : Nat → Int32) (n : Nat) (x1 : Int32) : ∀ (k : Nat) (s : Int32 × (Nat → Int32)) {hi hm : zHp} {nx : Nat} {Q : Option Value → zHp → zHp → Nat → Prop} {hm0 : zHp} (_ : mW cB cI am a1 a2 a3 F G tp s.2 oc hm) (_ : mFr am a1 a2 a3 hm0 hm) {x : Int32 × (Nat → Int32) × (Nat → Int32)} (_ : zloop (mundo_31 n F x1) k s = some x) (hQ : ∀ r : Int32 × (Nat → Int32) × (Nat → Int32), x = r → ∀ hm', mW cB cI am a1 a2 a3 r.2.1 G tp r.2.2 oc hm' → mFr am a1 a2 a3 hm0 hm' → Q (some (.int r.1)) hi hm' nx), zV s0 D (zty cB cI cJ cD) yX12_undo cX12_undo 3 (some .int) 0 0 0 0 31 [(0, .ref am), (1, .int x1), (2, .int s.1)] [] hi hm nx Q
  | 0, s, _, _, _, _, _, hW, hFr, _, h, _ => by cases h
  | k + 1, s, hi, hm, nx, Q, hm0, hW, hFr, x, h, hQ => by
    obtain ⟨z, hz, h1, h2⟩ := zloop_succ h
    exact cmundo_31 s0 D cB cI cJ cD am a1 a2 a3 F G tp oc n x1 s z hW hFr hz (fun s' hs hm' hW' hFr' => cmundo_31L s0 D cB cI cJ cD am a1 a2 a3 F G tp oc n x1 k s' hW' hFr' (h1 s' hs) hQ) (fun r hr hm' hW' hFr' => hQ r (h2 _ hr).symm hm' hW' hFr')
def mundo (n : Nat) (F : Nat → Int32) (w : Nat → Int32) : Option (Int32 × (Nat → Int32) × (Nat → Int32)) := (if (((upd F 0 0) 14) : Int32) = (0 : Int32) then some ((-3), (upd F 0 0), w) else (zloop (mundo_31 n (upd (upd F 0 0) 14 (((upd F 0 0) 14) - 1)) 2652) n (0, w)))
theorem oX12_undo : zO yX12_undo cX12_undo 3 (some .int) 0 := ⟨zT_mem 1767 (by decide +kernel) rfl, zT_mem 94 (by decide +kernel) rfl, by decide +kernel, by decide +kernel, by decide +kernel⟩
set_option maxHeartbeats 4000000 in
set_option maxRecDepth 100000 in
theorem cmundo (s0 : State) (D : va_G) (cB cI cJ cD : ClassId) (am a1 a2 a3 : Nat) (F : Nat → Int32) (G : Nat → Int64) (tp w oc : Nat → Int32) (n : Nat) (x : Int32 × (Nat → Int32) × (Nat → Int32)) (h : mundo n F w = some x) : mC s0 D cB cI cJ cD am a1 a2 a3 yX12_undo cX12_undo 3 (some .int) 0 0 [] F G tp w oc (some (.int x.1)) x.2.1 G tp x.2.2 oc := by
  intro hi hm nx Q hW hQ0
  have hQ : ∀ r : Int32 × (Nat → Int32) × (Nat → Int32), x = r → ∀ hm', mW cB cI am a1 a2 a3 r.2.1 G tp r.2.2 oc hm' → mFr am a1 a2 a3 hm hm' → Q (some (.int r.1)) hi hm' nx := fun r hr => by subst hr; exact hQ0
  have hFr : mFr am a1 a2 a3 hm hm := mFr.rf
  clear hQ0
  refine zM_of (by decide +kernel) (Nat.le_of_ble_eq_true rfl) ?_
  unfold mundo at h
  refine zV_eq (lo2 := [(0, .ref am)]) rfl rfl rfl rfl ?_
  refine zV_blk (pc' := 2) (lo' := [(0, .ref am)]) (st' := [.int 0, .ref am]) [.aload_n 0, .iconst 0] (by decide +kernel) rfl ?_
  refine m_put (idx := 25) (k := 0) (v := .int 0) (F' := (upd F 0 0)) (G' := G) hW m_in12 (by decide) (zT_mem 1440 (by decide +kernel) rfl) rfl rfl rfl rfl (by decide +kernel) (fun hm hW hFr2 => ?_)
  replace hFr := hFr.tr hFr2; clear hFr2
  refine zV_blk (pc' := 6) (lo' := [(0, .ref am)]) (st' := [.ref am]) [.aload_n 0] (by decide +kernel) rfl ?_
  refine m_get (idx := 205) (k := 14) (v := .int ((upd F 0 0) 14)) hW m_in12 (by decide) (zT_mem 1454 (by decide +kernel) rfl) rfl (by decide +kernel) ?_
  refine zV_if_ne (tgt := 15) (off := 6) (by decide +kernel) (by decide) (fun q => ?_) (fun q => ?_)
  · replace h := zif_neg q h
    clear q
    refine zV_blk (pc' := 17) (lo' := [(0, .ref am)]) (st' := [.ref am, .ref am]) [.aload_n 0, .dup] (by decide +kernel) rfl ?_
    refine m_get (idx := 205) (k := 14) (v := .int ((upd F 0 0) 14)) hW m_in12 (by decide) (zT_mem 1454 (by decide +kernel) rfl) rfl (by decide +kernel) ?_
    refine zV_blk (pc' := 22) (lo' := [(0, .ref am)]) (st' := [.int (((upd F 0 0) 14) - 1), .ref am]) [.iconst 1, .isub] (by decide +kernel) rfl ?_
    refine m_put (idx := 205) (k := 14) (v := .int (((upd F 0 0) 14) - 1)) (F' := (upd (upd F 0 0) 14 (((upd F 0 0) 14) - 1))) (G' := G) hW m_in12 (by decide) (zT_mem 1454 (by decide +kernel) rfl) rfl rfl rfl rfl (by decide +kernel) (fun hm hW hFr2 => ?_)
    replace hFr := hFr.tr hFr2; clear hFr2
    refine zV_blk (pc' := 31) (lo' := [(2, .int 0), (1, .int 2652), (0, .ref am)]) (st' := []) [.sipush 2652, .istore_n 1, .iconst 0, .istore_n 2] (by decide +kernel) rfl ?_
    refine zV_pick (lo2 := [(0, .ref am), (1, .int 2652), (2, .int 0)]) [2, 1, 0] rfl ?_
    exact cmundo_31L s0 D cB cI cJ cD am a1 a2 a3 (upd (upd F 0 0) 14 (((upd F 0 0) 14) - 1)) G tp oc n 2652 n (0, w) hW hFr h hQ
  · replace h := zif_pos q h
    clear q
    refine zV_blk (pc' := 14) (lo' := [(0, .ref am)]) (st' := [.int (-3)]) [.bipush (-3)] (by decide +kernel) rfl ?_
    obtain rfl := Option.some.inj h
    exact zV_iret rfl (by decide +kernel) (hQ _ rfl hm hW hFr)

def masRow_52 (n : Nat) (F : Nat → Int32) (x2 : Int32) (x3 : Int32) (s : Int32 × (Nat → Int32)) : Option ((Int32 × (Nat → Int32)) ⊕ (Int32 × (Nat → Int32) × (Nat → Int32))) := (if (x3 : Int32) < (s.1 : Int32) then zck (zin (2655) 35802) ((mchangesNow n F (upd s.2 (2655 : Int32).toNatClampNeg 3)).bind (fun v1 => (mcopies n v1.2 x2 2652).bind (fun v2 => some (.inr (x3, v1.1, v2))))) else (mleapsTo n s.2 x2 (s.1 : Int32).toInt64).bind (fun v3 => zck (zin ((2692 + s.1)) 35802) (some (.inl ((s.1 + 1), (upd s.2 ((2692 + s.1) : Int32).toNatClampNeg (v3 : Int64).toInt32))))))
set_option maxHeartbeats 4000000 in
set_option maxRecDepth 100000 in
theorem cmasRow_52 (s0 : State) (D : va_G) (cB cI cJ cD : ClassId) (am a1 a2 a3 : Nat) (F : Nat → Int32) (G : Nat → Int64) (tp : Nat → Int32) (oc : Nat → Int32) (n : Nat) (x2 : Int32) (x3 : Int32) (s : Int32 × (Nat → Int32)) (x : (Int32 × (Nat → Int32)) ⊕ (Int32 × (Nat → Int32) × (Nat → Int32))) {hi hm : zHp} {nx : Nat} {Q : Option Value → zHp → zHp → Nat → Prop} {hm0 : zHp} (hW : mW cB cI am a1 a2 a3 F G tp s.2 oc hm) (hFr : mFr am a1 a2 a3 hm0 hm) (h : masRow_52 n F x2 x3 s = some x) (hL52 : ∀ s : Int32 × (Nat → Int32), x = (.inl s) → ∀ hm', mW cB cI am a1 a2 a3 F G tp s.2 oc hm' → mFr am a1 a2 a3 hm0 hm' → zV s0 D (zty cB cI cJ cD) yX12_asRow cX12_asRow 5 (some .int) 3 74 0 0 52 [(0, .ref am), (2, .int x2), (3, .int x3), (4, .int s.1)] [] hi hm' nx Q) (hQ : ∀ r : Int32 × (Nat → Int32) × (Nat → Int32), x = (.inr r) → ∀ hm', mW cB cI am a1 a2 a3 r.2.1 G tp r.2.2 oc hm' → mFr am a1 a2 a3 hm0 hm' → Q (some (.int r.1)) hi hm' nx) : zV s0 D (zty cB cI cJ cD) yX12_asRow cX12_asRow 5 (some .int) 3 74 0 0 52 [(0, .ref am), (2, .int x2), (3, .int x3), (4, .int s.1)] [] hi hm nx Q := by
  unfold masRow_52 at h
  refine zV_blk (pc' := 55) (lo' := [(0, .ref am), (2, .int x2), (3, .int x3), (4, .int s.1)]) (st' := [.int x3, .int s.1]) [.iload 4, .iload_n 3] (by decide +kernel) rfl ?_
  refine zV_icmp_gt (tgt := 84) (off := 29) (by decide +kernel) (by decide) (fun q => ?_) (fun q => ?_)
  · replace h := zif_pos q h
    clear q
    refine zV_blk (pc' := 85) (lo' := [(0, .ref am), (2, .int x2), (3, .int x3), (4, .int s.1)]) (st' := [.ref am]) [.aload_n 0] (by decide +kernel) rfl ?_
    refine m_get (idx := 18) (k := 12) (v := .ref a2) hW m_in12 (by decide) (zT_mem 1452 (by decide +kernel) rfl) rfl (by decide +kernel) ?_
    refine zV_blk (pc' := 92) (lo' := [(0, .ref am), (2, .int x2), (3, .int x3), (4, .int s.1)]) (st' := [.int 3, .int 2655, .ref a2]) [.sipush 2655, .iconst 3] (by decide +kernel) rfl ?_
    obtain ⟨hz, h⟩ := zck_some h
    refine m_wst hW hz (by decide +kernel) (fun hm hW hFr2 => ?_)
    replace hFr := hFr.tr hFr2; clear hFr2
    refine zV_blk (pc' := 94) (lo' := [(0, .ref am), (2, .int x2), (3, .int x3), (4, .int s.1)]) (st' := [.ref am]) [.aload_n 0] (by decide +kernel) rfl ?_
    obtain ⟨v1, hv1, h⟩ := zbind h
    refine m_cC (idx := 223) (rest := []) hW (cmchangesNow s0 D cB cI cJ cD am a1 a2 a3 F G tp (upd s.2 (2655 : Int32).toNatClampNeg 3) oc n  v1 hv1) oX12_changesNow rfl (zT_mem 1667 (by decide +kernel) rfl) (zT_mem 1669 (by decide +kernel) rfl) (zT_mem 47 (by decide +kernel) rfl) rfl rfl (Nat.le_of_ble_eq_true rfl) ⟨by decide, by decide⟩ (by decide +kernel) (fun hm hW hFr2 => ?_)
    replace hFr := hFr.tr hFr2; clear hFr2
    refine zV_eq (st2 := []) rfl rfl rfl rfl ?_
    refine zV_blk (pc' := 102) (lo' := [(0, .ref am), (2, .int x2), (3, .int x3), (4, .int s.1)]) (st' := [.int 2652, .int x2, .ref am]) [.aload_n 0, .iload_n 2, .sipush 2652] (by decide +kernel) rfl ?_
    obtain ⟨v2, hv2, h⟩ := zbind h
    refine m_cC (idx := 226) (rest := []) hW (cmcopies s0 D cB cI cJ cD am a1 a2 a3 v1.1 G tp v1.2 oc n x2 2652 v2 hv2) oX12_copies rfl (zT_mem 1674 (by decide +kernel) rfl) (zT_mem 1676 (by decide +kernel) rfl) (zT_mem 48 (by decide +kernel) rfl) rfl rfl (Nat.le_of_ble_eq_true rfl) ⟨by decide, by decide⟩ (by decide +kernel) (fun hm hW hFr2 => ?_)
    replace hFr := hFr.tr hFr2; clear hFr2
    refine zV_eq (st2 := []) rfl rfl rfl rfl ?_
    refine zV_blk (pc' := 106) (lo' := [(0, .ref am), (2, .int x2), (3, .int x3), (4, .int s.1)]) (st' := [.int x3]) [.iload_n 3] (by decide +kernel) rfl ?_
    obtain rfl := Option.some.inj h
    exact zV_iret rfl (by decide +kernel) (hQ _ rfl hm hW hFr)
  · replace h := zif_neg q h
    clear q
    refine zV_blk (pc' := 59) (lo' := [(0, .ref am), (2, .int x2), (3, .int x3), (4, .int s.1)]) (st' := [.ref am]) [.aload_n 0] (by decide +kernel) rfl ?_
    refine m_get (idx := 18) (k := 12) (v := .ref a2) hW m_in12 (by decide) (zT_mem 1452 (by decide +kernel) rfl) rfl (by decide +kernel) ?_
    refine zV_blk (pc' := 73) (lo' := [(0, .ref am), (2, .int x2), (3, .int x3), (4, .int s.1)]) (st' := [.long (s.1 : Int32).toInt64, .int x2, .ref am, .int (2692 + s.1), .ref a2]) [.sipush 2692, .iload 4, .iadd, .aload_n 0, .iload_n 2, .iload 4, .i2l] (by decide +kernel) rfl ?_
    obtain ⟨v3, hv3, h⟩ := zbind h
    refine m_cR (idx := 232) (rest := [.int (2692 + s.1), .ref a2]) hW (cmleapsTo s0 D cB cI cJ cD am a1 a2 a3 F G tp s.2 oc n x2 (s.1 : Int32).toInt64 v3 hv3) oX12_leapsTo rfl (zT_mem 1694 (by decide +kernel) rfl) (zT_mem 1696 (by decide +kernel) rfl) (zT_mem 51 (by decide +kernel) rfl) rfl rfl (Nat.le_of_ble_eq_true rfl) ⟨by decide, by decide⟩ (by decide +kernel) ?_
    refine zV_eq (st2 := [.long v3, .int (2692 + s.1), .ref a2]) rfl rfl rfl rfl ?_
    refine zV_blk (pc' := 77) (lo' := [(0, .ref am), (2, .int x2), (3, .int x3), (4, .int s.1)]) (st' := [.int (v3 : Int64).toInt32, .int (2692 + s.1), .ref a2]) [.l2i] (by decide +kernel) rfl ?_
    obtain ⟨hz, h⟩ := zck_some h
    refine m_wst hW hz (by decide +kernel) (fun hm hW hFr2 => ?_)
    replace hFr := hFr.tr hFr2; clear hFr2
    refine zV_blk (pc' := 81) (lo' := [(4, .int (s.1 + 1)), (0, .ref am), (2, .int x2), (3, .int x3)]) (st' := []) [.iinc 4 1] (by decide +kernel) rfl ?_
    refine zV_goto (tgt := 52) (off := -29) (by decide +kernel) (by decide) ?_
    obtain rfl := Option.some.inj h
    refine zV_pick (lo2 := [(0, .ref am), (2, .int x2), (3, .int x3), (4, .int (s.1 + 1))]) [1, 2, 3, 0] rfl ?_
    exact hL52 _ rfl hm hW hFr
theorem cmasRow_52L (s0 : State) (D : va_G) (cB cI cJ cD : ClassId) (am a1 a2 a3 : Nat) (F : Nat → Int32) (G : Nat → Int64) (tp : Nat → Int32) (oc : Nat → Int32) (n : Nat) (x2 : Int32) (x3 : Int32) : ∀ (k : Nat) (s : Int32 × (Nat → Int32)) {hi hm : zHp} {nx : Nat} {Q : Option Value → zHp → zHp → Nat → Prop} {hm0 : zHp} (_ : mW cB cI am a1 a2 a3 F G tp s.2 oc hm) (_ : mFr am a1 a2 a3 hm0 hm) {x : Int32 × (Nat → Int32) × (Nat → Int32)} (_ : zloop (masRow_52 n F x2 x3) k s = some x) (hQ : ∀ r : Int32 × (Nat → Int32) × (Nat → Int32), x = r → ∀ hm', mW cB cI am a1 a2 a3 r.2.1 G tp r.2.2 oc hm' → mFr am a1 a2 a3 hm0 hm' → Q (some (.int r.1)) hi hm' nx), zV s0 D (zty cB cI cJ cD) yX12_asRow cX12_asRow 5 (some .int) 3 74 0 0 52 [(0, .ref am), (2, .int x2), (3, .int x3), (4, .int s.1)] [] hi hm nx Q
  | 0, s, _, _, _, _, _, hW, hFr, _, h, _ => by cases h
  | k + 1, s, hi, hm, nx, Q, hm0, hW, hFr, x, h, hQ => by
    obtain ⟨z, hz, h1, h2⟩ := zloop_succ h
    exact cmasRow_52 s0 D cB cI cJ cD am a1 a2 a3 F G tp oc n x2 x3 s z hW hFr hz (fun s' hs hm' hW' hFr' => cmasRow_52L s0 D cB cI cJ cD am a1 a2 a3 F G tp oc n x2 x3 k s' hW' hFr' (h1 s' hs) hQ) (fun r hr hm' hW' hFr' => hQ r (h2 _ hr).symm hm' hW' hFr')
def masRow (n : Nat) (F : Nat → Int32) (w : Nat → Int32) (x1 : Int32) : Option (Int32 × (Nat → Int32) × (Nat → Int32)) := (misThere w x1).bind (fun v1 => (if v1 = true then (mbank x1).bind (fun v2 => zck (zin ((v2 + 8)) 35802) ((if ((w ((v2 + 8) : Int32).toNatClampNeg) : Int32) ≤ (400 : Int32) then (mcopies n w 2652 v2).bind (fun v3 => (zloop (masRow_52 n (upd F 0 0) v2 (w ((v2 + 8) : Int32).toNatClampNeg)) n (0, v3))) else some ((-3), (upd F 0 0), w)))) else some ((-2), (upd F 0 0), w)))
theorem oX12_asRow : zO yX12_asRow cX12_asRow 5 (some .int) 1 := ⟨zT_mem 1771 (by decide +kernel) rfl, zT_mem 94 (by decide +kernel) rfl, by decide +kernel, by decide +kernel, by decide +kernel⟩
set_option maxHeartbeats 4000000 in
set_option maxRecDepth 100000 in
theorem cmasRow (s0 : State) (D : va_G) (cB cI cJ cD : ClassId) (am a1 a2 a3 : Nat) (F : Nat → Int32) (G : Nat → Int64) (tp w oc : Nat → Int32) (n : Nat) (x1 : Int32) (x : Int32 × (Nat → Int32) × (Nat → Int32)) (h : masRow n F w x1 = some x) : mC s0 D cB cI cJ cD am a1 a2 a3 yX12_asRow cX12_asRow 5 (some .int) 3 74 [.int x1] F G tp w oc (some (.int x.1)) x.2.1 G tp x.2.2 oc := by
  intro hi hm nx Q hW hQ0
  have hQ : ∀ r : Int32 × (Nat → Int32) × (Nat → Int32), x = r → ∀ hm', mW cB cI am a1 a2 a3 r.2.1 G tp r.2.2 oc hm' → mFr am a1 a2 a3 hm hm' → Q (some (.int r.1)) hi hm' nx := fun r hr => by subst hr; exact hQ0
  have hFr : mFr am a1 a2 a3 hm hm := mFr.rf
  clear hQ0
  refine zM_of (by decide +kernel) (Nat.le_of_ble_eq_true rfl) ?_
  unfold masRow at h
  refine zV_eq (lo2 := [(0, .ref am), (1, .int x1)]) rfl rfl rfl rfl ?_
  refine zV_blk (pc' := 2) (lo' := [(0, .ref am), (1, .int x1)]) (st' := [.int 0, .ref am]) [.aload_n 0, .iconst 0] (by decide +kernel) rfl ?_
  refine m_put (idx := 25) (k := 0) (v := .int 0) (F' := (upd F 0 0)) (G' := G) hW m_in12 (by decide) (zT_mem 1440 (by decide +kernel) rfl) rfl rfl rfl rfl (by decide +kernel) (fun hm hW hFr2 => ?_)
  replace hFr := hFr.tr hFr2; clear hFr2
  refine zV_blk (pc' := 7) (lo' := [(0, .ref am), (1, .int x1)]) (st' := [.int x1, .ref am]) [.aload_n 0, .iload_n 1] (by decide +kernel) rfl ?_
  obtain ⟨v1, hv1, h⟩ := zbind h
  refine m_cR (idx := 273) (rest := []) hW (cmisThere s0 D cB cI cJ cD am a1 a2 a3 (upd F 0 0) G tp w oc x1 v1 hv1) oX12_isThere rfl (zT_mem 1686 (by decide +kernel) rfl) (zT_mem 1688 (by decide +kernel) rfl) (zT_mem 49 (by decide +kernel) rfl) rfl rfl (Nat.le_of_ble_eq_true rfl) ⟨by decide, by decide⟩ (by decide +kernel) ?_
  refine zV_eq (st2 := [.int (zb v1)]) rfl rfl rfl rfl ?_
  refine zV_bif_ne (tgt := 16) (off := 6) (by decide +kernel) (by decide) (fun q => ?_) (fun q => ?_)
  · replace h := zif_pos q h
    clear q
    refine zV_blk (pc' := 17) (lo' := [(0, .ref am), (1, .int x1)]) (st' := [.int x1]) [.iload_n 1] (by decide +kernel) rfl ?_
    obtain ⟨v2, hv2, h⟩ := zbind h
    refine zV_sC (idx := 118) (rest := []) (cmbank s0 D cB cI cJ cD x1 v2 hv2) oX12_bank (zT_mem 1671 (by decide +kernel) rfl) (zT_mem 1672 (by decide +kernel) rfl) rfl rfl (Nat.le_of_ble_eq_true rfl) ⟨by decide, by decide⟩ (by decide +kernel) ?_
    refine zV_eq (st2 := [.int v2]) rfl rfl rfl rfl ?_
    refine zV_blk (pc' := 22) (lo' := [(2, .int v2), (0, .ref am), (1, .int x1)]) (st' := [.ref am]) [.istore_n 2, .aload_n 0] (by decide +kernel) rfl ?_
    refine m_get (idx := 18) (k := 12) (v := .ref a2) hW m_in12 (by decide) (zT_mem 1452 (by decide +kernel) rfl) rfl (by decide +kernel) ?_
    refine zV_blk (pc' := 29) (lo' := [(2, .int v2), (0, .ref am), (1, .int x1)]) (st' := [.int (v2 + 8), .ref a2]) [.iload_n 2, .bipush 8, .iadd] (by decide +kernel) rfl ?_
    obtain ⟨hz, h⟩ := zck_some h
    refine m_wld hW hz (by decide +kernel) ?_
    refine zV_blk (pc' := 35) (lo' := [(3, .int (w ((v2 + 8) : Int32).toNatClampNeg)), (2, .int v2), (0, .ref am), (1, .int x1)]) (st' := [.int 400, .int (w ((v2 + 8) : Int32).toNatClampNeg)]) [.istore_n 3, .iload_n 3, .sipush 400] (by decide +kernel) rfl ?_
    refine zV_icmp_le (tgt := 41) (off := 6) (by decide +kernel) (by decide) (fun q => ?_) (fun q => ?_)
    · replace h := zif_pos q h
      clear q
      refine zV_blk (pc' := 46) (lo' := [(3, .int (w ((v2 + 8) : Int32).toNatClampNeg)), (2, .int v2), (0, .ref am), (1, .int x1)]) (st' := [.int v2, .int 2652, .ref am]) [.aload_n 0, .sipush 2652, .iload_n 2] (by decide +kernel) rfl ?_
      obtain ⟨v3, hv3, h⟩ := zbind h
      refine m_cC (idx := 226) (rest := []) hW (cmcopies s0 D cB cI cJ cD am a1 a2 a3 (upd F 0 0) G tp w oc n 2652 v2 v3 hv3) oX12_copies rfl (zT_mem 1674 (by decide +kernel) rfl) (zT_mem 1676 (by decide +kernel) rfl) (zT_mem 48 (by decide +kernel) rfl) rfl rfl (Nat.le_of_ble_eq_true rfl) ⟨by decide, by decide⟩ (by decide +kernel) (fun hm hW hFr2 => ?_)
      replace hFr := hFr.tr hFr2; clear hFr2
      refine zV_eq (st2 := []) rfl rfl rfl rfl ?_
      refine zV_blk (pc' := 52) (lo' := [(4, .int 0), (3, .int (w ((v2 + 8) : Int32).toNatClampNeg)), (2, .int v2), (0, .ref am), (1, .int x1)]) (st' := []) [.iconst 0, .istore 4] (by decide +kernel) rfl ?_
      refine zV_pick (lo2 := [(0, .ref am), (2, .int v2), (3, .int (w ((v2 + 8) : Int32).toNatClampNeg)), (4, .int 0)]) [3, 2, 1, 0] rfl ?_
      exact cmasRow_52L s0 D cB cI cJ cD am a1 a2 a3 (upd F 0 0) G tp oc n v2 (w ((v2 + 8) : Int32).toNatClampNeg) n (0, v3) hW hFr h hQ
    · replace h := zif_neg q h
      clear q
      refine zV_blk (pc' := 40) (lo' := [(3, .int (w ((v2 + 8) : Int32).toNatClampNeg)), (2, .int v2), (0, .ref am), (1, .int x1)]) (st' := [.int (-3)]) [.bipush (-3)] (by decide +kernel) rfl ?_
      obtain rfl := Option.some.inj h
      exact zV_iret rfl (by decide +kernel) (hQ _ rfl hm hW hFr)
  · replace h := zif_neg q h
    clear q
    refine zV_blk (pc' := 15) (lo' := [(0, .ref am), (1, .int x1)]) (st' := [.int (-2)]) [.bipush (-2)] (by decide +kernel) rfl ?_
    obtain rfl := Option.some.inj h
    exact zV_iret rfl (by decide +kernel) (hQ _ rfl hm hW hFr)

def moctet1 (F : Nat → Int32) (oc : Nat → Int32) (x1 : Int32) : Option ((Nat → Int32) × (Nat → Int32)) := zck (zin ((F 16)) 2400) (some ((upd F 16 ((F 16) + 1)), (upd oc ((F 16) : Int32).toNatClampNeg x1)))
theorem oX12_octet1 : zO yX12_octet1 cX12_octet1 2 none 1 := ⟨zT_mem 1783 (by decide +kernel) rfl, zT_mem 94 (by decide +kernel) rfl, by decide +kernel, by decide +kernel, by decide +kernel⟩
set_option maxHeartbeats 4000000 in
set_option maxRecDepth 100000 in
theorem cmoctet1 (s0 : State) (D : va_G) (cB cI cJ cD : ClassId) (am a1 a2 a3 : Nat) (F : Nat → Int32) (G : Nat → Int64) (tp w oc : Nat → Int32) (x1 : Int32) (x : (Nat → Int32) × (Nat → Int32)) (h : moctet1 F oc x1 = some x) : mC s0 D cB cI cJ cD am a1 a2 a3 yX12_octet1 cX12_octet1 2 none 0 0 [.int x1] F G tp w oc none x.1 G tp w x.2 := by
  intro hi hm nx Q hW hQ0
  have hQ : ∀ r : (Nat → Int32) × (Nat → Int32), x = r → ∀ hm', mW cB cI am a1 a2 a3 r.1 G tp w r.2 hm' → mFr am a1 a2 a3 hm hm' → Q none hi hm' nx := fun r hr => by subst hr; exact hQ0
  have hFr : mFr am a1 a2 a3 hm hm := mFr.rf
  clear hQ0
  refine zM_of (by decide +kernel) (Nat.le_of_ble_eq_true rfl) ?_
  unfold moctet1 at h
  refine zV_eq (lo2 := [(0, .ref am), (1, .int x1)]) rfl rfl rfl rfl ?_
  refine zV_blk (pc' := 1) (lo' := [(0, .ref am), (1, .int x1)]) (st' := [.ref am]) [.aload_n 0] (by decide +kernel) rfl ?_
  refine m_get (idx := 22) (k := 15) (v := .ref a3) hW m_in12 (by decide) (zT_mem 1455 (by decide +kernel) rfl) rfl (by decide +kernel) ?_
  refine zV_blk (pc' := 5) (lo' := [(0, .ref am), (1, .int x1)]) (st' := [.ref am, .ref a3]) [.aload_n 0] (by decide +kernel) rfl ?_
  refine m_get (idx := 294) (k := 16) (v := .int (F 16)) hW m_in12 (by decide) (zT_mem 1456 (by decide +kernel) rfl) rfl (by decide +kernel) ?_
  refine zV_blk (pc' := 9) (lo' := [(0, .ref am), (1, .int x1)]) (st' := [.int x1, .int (F 16), .ref a3]) [.iload_n 1] (by decide +kernel) rfl ?_
  obtain ⟨hz, h⟩ := zck_some h
  refine m_ost hW hz (by decide +kernel) (fun hm hW hFr2 => ?_)
  replace hFr := hFr.tr hFr2; clear hFr2
  refine zV_blk (pc' := 12) (lo' := [(0, .ref am), (1, .int x1)]) (st' := [.ref am, .ref am]) [.aload_n 0, .dup] (by decide +kernel) rfl ?_
  refine m_get (idx := 294) (k := 16) (v := .int (F 16)) hW m_in12 (by decide) (zT_mem 1456 (by decide +kernel) rfl) rfl (by decide +kernel) ?_
  refine zV_blk (pc' := 17) (lo' := [(0, .ref am), (1, .int x1)]) (st' := [.int ((F 16) + 1), .ref am]) [.iconst 1, .iadd] (by decide +kernel) rfl ?_
  refine m_put (idx := 294) (k := 16) (v := .int ((F 16) + 1)) (F' := (upd F 16 ((F 16) + 1))) (G' := G) hW m_in12 (by decide) (zT_mem 1456 (by decide +kernel) rfl) rfl rfl rfl rfl (by decide +kernel) (fun hm hW hFr2 => ?_)
  replace hFr := hFr.tr hFr2; clear hFr2
  obtain rfl := Option.some.inj h
  exact zV_vret rfl (by decide +kernel) (hQ _ rfl hm hW hFr)

