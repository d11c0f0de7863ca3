def moctet (F : Nat → Int32) (oc : Nat → Int32) (x1 : Int32) : Option (Int32 × (Nat → Int32)) := (misIn (x1 : Int32).toInt64 0 ((((upd F 0 0) 16) - 1) : Int32).toInt64).bind (fun v1 => (if v1 = true then zck (zin (x1) 2400) (some ((oc (x1 : Int32).toNatClampNeg), (upd F 0 0))) else some ((-1), (upd F 0 0))))
theorem oX12_octet : zO yX12_octet cX12_octet 2 (some .int) 1 := ⟨zT_mem 1812 (by decide +kernel) rfl, zT_mem 94 (by decide +kernel) rfl, by decide +kernel, by decide +kernel, by decide +kernel⟩
set_option maxHeartbeats 4000000 in
set_option maxRecDepth 100000 in
theorem cmoctet (s0 : State) (D : va_G) (cB cI cJ cD : ClassId) (am a1 a2 a3 : Nat) (F : Nat → Int32) (G : Nat → Int64) (tp w oc : Nat → Int32) (x1 : Int32) (x : Int32 × (Nat → Int32)) (h : moctet F oc x1 = some x) : mC s0 D cB cI cJ cD am a1 a2 a3 yX12_octet cX12_octet 2 (some .int) 1 25 [.int x1] F G tp w oc (some (.int x.1)) x.2 G tp w oc := by
  intro hi hm nx Q hW hQ0
  have hQ : ∀ r : Int32 × (Nat → Int32), x = r → ∀ hm', mW cB cI am a1 a2 a3 r.2 G tp w oc hm' → mFr am a1 a2 a3 hm hm' → Q (some (.int r.1)) hi hm' nx := fun r hr => by subst hr; exact hQ0
  have hFr : mFr am a1 a2 a3 hm hm := mFr.rf
  clear hQ0
  refine zM_of (by decide +kernel) (Nat.le_of_ble_eq_true rfl) ?_
  unfold moctet at h
  refine zV_eq (lo2 := [(0, .ref am), (1, .int x1)]) rfl rfl rfl rfl ?_
  refine zV_blk (pc' := 2) (lo' := [(0, .ref am), (1, .int x1)]) (st' := [.int 0, .ref am]) [.aload_n 0, .iconst 0] (by decide +kernel) rfl ?_
  refine m_put (idx := 25) (k := 0) (v := .int 0) (F' := (upd F 0 0)) (G' := G) hW m_in12 (by decide) (zT_mem 1440 (by decide +kernel) rfl) rfl rfl rfl rfl (by decide +kernel) (fun hm hW hFr2 => ?_)
  replace hFr := hFr.tr hFr2; clear hFr2
  refine zV_blk (pc' := 9) (lo' := [(0, .ref am), (1, .int x1)]) (st' := [.ref am, .long 0, .long (x1 : Int32).toInt64]) [.iload_n 1, .i2l, .lconst 0, .aload_n 0] (by decide +kernel) rfl ?_
  refine m_get (idx := 294) (k := 16) (v := .int ((upd F 0 0) 16)) hW m_in12 (by decide) (zT_mem 1456 (by decide +kernel) rfl) rfl (by decide +kernel) ?_
  refine zV_blk (pc' := 15) (lo' := [(0, .ref am), (1, .int x1)]) (st' := [.long ((((upd F 0 0) 16) - 1) : Int32).toInt64, .long 0, .long (x1 : Int32).toInt64]) [.iconst 1, .isub, .i2l] (by decide +kernel) rfl ?_
  obtain ⟨v1, hv1, h⟩ := zbind h
  refine zV_sC (idx := 36) (rest := []) (cmisIn s0 D cB cI cJ cD (x1 : Int32).toInt64 0 ((((upd F 0 0) 16) - 1) : Int32).toInt64 v1 hv1) oX12_isIn (zT_mem 1531 (by decide +kernel) rfl) (zT_mem 1532 (by decide +kernel) rfl) rfl rfl (Nat.le_of_ble_eq_true rfl) ⟨by decide, by decide⟩ (by decide +kernel) ?_
  refine zV_eq (st2 := [.int (zb v1)]) rfl rfl rfl rfl ?_
  refine zV_bif_eq (tgt := 30) (off := 12) (by decide +kernel) (by decide) (fun q => ?_) (fun q => ?_)
  · replace h := zif_neg q h
    clear q
    refine zV_blk (pc' := 31) (lo' := [(0, .ref am), (1, .int x1)]) (st' := [.int (-1)]) [.iconst (-1)] (by decide +kernel) rfl ?_
    obtain rfl := Option.some.inj h
    exact zV_iret rfl (by decide +kernel) (hQ _ rfl hm hW hFr)
  · replace h := zif_pos q h
    clear q
    refine zV_blk (pc' := 22) (lo' := [(0, .ref am), (1, .int x1)]) (st' := [.ref am]) [.aload_n 0] (by decide +kernel) rfl ?_
    refine m_get (idx := 22) (k := 15) (v := .ref a3) hW m_in12 (by decide) (zT_mem 1455 (by decide +kernel) rfl) rfl (by decide +kernel) ?_
    refine zV_blk (pc' := 26) (lo' := [(0, .ref am), (1, .int x1)]) (st' := [.int x1, .ref a3]) [.iload_n 1] (by decide +kernel) rfl ?_
    obtain ⟨hz, h⟩ := zck_some h
    refine m_old hW hz (by decide +kernel) ?_
    refine zV_goto (tgt := 31) (off := 4) (by decide +kernel) (by decide) ?_
    obtain rfl := Option.some.inj h
    exact zV_iret rfl (by decide +kernel) (hQ _ rfl hm hW hFr)

def mleap (n : Nat) (F : Nat → Int32) (w : Nat → Int32) (x1 : Int32) (x2 : Int32) : Option (Int32 × (Nat → Int32)) := (misThere w x1).bind (fun v1 => (if v1 = true then (misYear (x2 : Int32).toInt64).bind (fun v2 => (if v2 = true then (mbank x1).bind (fun v3 => (misLeap n w v3 (x2 : Int32).toInt64).bind (fun v4 => (mflag (zb v4)).bind (fun v5 => some (v5, (upd F 0 0))))) else some ((-1), (upd F 0 0)))) else some ((-1), (upd F 0 0))))
theorem oX12_leap : zO yX12_leap cX12_leap 3 (some .int) 2 := ⟨zT_mem 1816 (by decide +kernel) rfl, zT_mem 94 (by decide +kernel) rfl, by decide +kernel, by decide +kernel, by decide +kernel⟩
set_option maxHeartbeats 4000000 in
set_option maxRecDepth 100000 in
theorem cmleap (s0 : State) (D : va_G) (cB cI cJ cD : ClassId) (am a1 a2 a3 : Nat) (F : Nat → Int32) (G : Nat → Int64) (tp w oc : Nat → Int32) (n : Nat) (x1 : Int32) (x2 : Int32) (x : Int32 × (Nat → Int32)) (h : mleap n F w x1 x2 = some x) : mC s0 D cB cI cJ cD am a1 a2 a3 yX12_leap cX12_leap 3 (some .int) 3 72 [.int x1, .int x2] F G tp w oc (some (.int x.1)) x.2 G tp w oc := by
  intro hi hm nx Q hW hQ0
  have hQ : ∀ r : Int32 × (Nat → Int32), x = r → ∀ hm', mW cB cI am a1 a2 a3 r.2 G tp w oc hm' → mFr am a1 a2 a3 hm hm' → Q (some (.int r.1)) hi hm' nx := fun r hr => by subst hr; exact hQ0
  have hFr : mFr am a1 a2 a3 hm hm := mFr.rf
  clear hQ0
  refine zM_of (by decide +kernel) (Nat.le_of_ble_eq_true rfl) ?_
  unfold mleap at h
  refine zV_eq (lo2 := [(0, .ref am), (1, .int x1), (2, .int x2)]) rfl rfl rfl rfl ?_
  refine zV_blk (pc' := 2) (lo' := [(0, .ref am), (1, .int x1), (2, .int x2)]) (st' := [.int 0, .ref am]) [.aload_n 0, .iconst 0] (by decide +kernel) rfl ?_
  refine m_put (idx := 25) (k := 0) (v := .int 0) (F' := (upd F 0 0)) (G' := G) hW m_in12 (by decide) (zT_mem 1440 (by decide +kernel) rfl) rfl rfl rfl rfl (by decide +kernel) (fun hm hW hFr2 => ?_)
  replace hFr := hFr.tr hFr2; clear hFr2
  refine zV_blk (pc' := 7) (lo' := [(0, .ref am), (1, .int x1), (2, .int x2)]) (st' := [.int x1, .ref am]) [.aload_n 0, .iload_n 1] (by decide +kernel) rfl ?_
  obtain ⟨v1, hv1, h⟩ := zbind h
  refine m_cR (idx := 273) (rest := []) hW (cmisThere s0 D cB cI cJ cD am a1 a2 a3 (upd F 0 0) G tp w oc x1 v1 hv1) oX12_isThere rfl (zT_mem 1686 (by decide +kernel) rfl) (zT_mem 1688 (by decide +kernel) rfl) (zT_mem 49 (by decide +kernel) rfl) rfl rfl (Nat.le_of_ble_eq_true rfl) ⟨by decide, by decide⟩ (by decide +kernel) ?_
  refine zV_eq (st2 := [.int (zb v1)]) rfl rfl rfl rfl ?_
  refine zV_bif_eq (tgt := 37) (off := 27) (by decide +kernel) (by decide) (fun q => ?_) (fun q => ?_)
  · replace h := zif_neg q h
    clear q
    refine zV_blk (pc' := 38) (lo' := [(0, .ref am), (1, .int x1), (2, .int x2)]) (st' := [.int (-1)]) [.iconst (-1)] (by decide +kernel) rfl ?_
    obtain rfl := Option.some.inj h
    exact zV_iret rfl (by decide +kernel) (hQ _ rfl hm hW hFr)
  · replace h := zif_pos q h
    clear q
    refine zV_blk (pc' := 15) (lo' := [(0, .ref am), (1, .int x1), (2, .int x2)]) (st' := [.long (x2 : Int32).toInt64]) [.iload_n 2, .i2l] (by decide +kernel) rfl ?_
    obtain ⟨v2, hv2, h⟩ := zbind h
    refine zV_sC (idx := 255) (rest := []) (cmisYear s0 D cB cI cJ cD (x2 : Int32).toInt64 v2 hv2) oX12_isYear (zT_mem 1817 (by decide +kernel) rfl) (zT_mem 1818 (by decide +kernel) rfl) rfl rfl (Nat.le_of_ble_eq_true rfl) ⟨by decide, by decide⟩ (by decide +kernel) ?_
    refine zV_eq (st2 := [.int (zb v2)]) rfl rfl rfl rfl ?_
    refine zV_bif_eq (tgt := 37) (off := 19) (by decide +kernel) (by decide) (fun q => ?_) (fun q => ?_)
    · replace h := zif_neg q h
      clear q
      refine zV_blk (pc' := 38) (lo' := [(0, .ref am), (1, .int x1), (2, .int x2)]) (st' := [.int (-1)]) [.iconst (-1)] (by decide +kernel) rfl ?_
      obtain rfl := Option.some.inj h
      exact zV_iret rfl (by decide +kernel) (hQ _ rfl hm hW hFr)
    · replace h := zif_pos q h
      clear q
      refine zV_blk (pc' := 23) (lo' := [(0, .ref am), (1, .int x1), (2, .int x2)]) (st' := [.int x1, .ref am]) [.aload_n 0, .iload_n 1] (by decide +kernel) rfl ?_
      obtain ⟨v3, hv3, h⟩ := zbind h
      refine zV_sC (idx := 118) (rest := [.ref am]) (cmbank s0 D cB cI cJ cD x1 v3 hv3) oX12_bank (zT_mem 1671 (by decide +kernel) rfl) (zT_mem 1672 (by decide +kernel) rfl) rfl rfl (Nat.le_of_ble_eq_true rfl) ⟨by decide, by decide⟩ (by decide +kernel) ?_
      refine zV_eq (st2 := [.int v3, .ref am]) rfl rfl rfl rfl ?_
      refine zV_blk (pc' := 28) (lo' := [(0, .ref am), (1, .int x1), (2, .int x2)]) (st' := [.long (x2 : Int32).toInt64, .int v3, .ref am]) [.iload_n 2, .i2l] (by decide +kernel) rfl ?_
      obtain ⟨v4, hv4, h⟩ := zbind h
      refine m_cR (idx := 236) (rest := []) hW (cmisLeap s0 D cB cI cJ cD am a1 a2 a3 (upd F 0 0) G tp w oc n v3 (x2 : Int32).toInt64 v4 hv4) oX12_isLeap rfl (zT_mem 1805 (by decide +kernel) rfl) (zT_mem 1807 (by decide +kernel) rfl) (zT_mem 64 (by decide +kernel) rfl) rfl rfl (Nat.le_of_ble_eq_true rfl) ⟨by decide, by decide⟩ (by decide +kernel) ?_
      refine zV_eq (st2 := [.int (zb v4)]) rfl rfl rfl rfl ?_
      obtain ⟨v5, hv5, h⟩ := zbind h
      refine zV_sC (idx := 321) (rest := []) (cmflag s0 D cB cI cJ cD (zb v4) v5 hv5) oX12_flag (zT_mem 1822 (by decide +kernel) rfl) (zT_mem 1823 (by decide +kernel) rfl) rfl rfl (Nat.le_of_ble_eq_true rfl) ⟨by decide, by decide⟩ (by decide +kernel) ?_
      refine zV_eq (st2 := [.int v5]) rfl rfl rfl rfl ?_
      refine zV_goto (tgt := 38) (off := 4) (by decide +kernel) (by decide) ?_
      obtain rfl := Option.some.inj h
      exact zV_iret rfl (by decide +kernel) (hQ _ rfl hm hW hFr)

def mleaps (n : Nat) (F : Nat → Int32) (w : Nat → Int32) (x1 : Int32) (x2 : Int32) (x3 : Int32) : Option (Int32 × (Nat → Int32)) := (misThere w x1).bind (fun v1 => (if v1 = true then (misYear (x2 : Int32).toInt64).bind (fun v2 => (if v2 = true then (misYear (x3 : Int32).toInt64).bind (fun v3 => (if v3 = true then (if (x2 : Int32) < (x3 : Int32) then (mbank x1).bind (fun v4 => (mleapsTo n w v4 (x3 : Int32).toInt64).bind (fun v5 => (mbank x1).bind (fun v6 => (mleapsTo n w v6 (x2 : Int32).toInt64).bind (fun v7 => some (((v5 - v7) : Int64).toInt32, (upd F 0 0)))))) else some (0, (upd F 0 0))) else some ((-1), (upd F 0 0)))) else some ((-1), (upd F 0 0)))) else some ((-1), (upd F 0 0))))
theorem oX12_leaps : zO yX12_leaps cX12_leaps 4 (some .int) 3 := ⟨zT_mem 1828 (by decide +kernel) rfl, zT_mem 94 (by decide +kernel) rfl, by decide +kernel, by decide +kernel, by decide +kernel⟩
set_option maxHeartbeats 4000000 in
set_option maxRecDepth 100000 in
theorem cmleaps (s0 : State) (D : va_G) (cB cI cJ cD : ClassId) (am a1 a2 a3 : Nat) (F : Nat → Int32) (G : Nat → Int64) (tp w oc : Nat → Int32) (n : Nat) (x1 : Int32) (x2 : Int32) (x3 : Int32) (x : Int32 × (Nat → Int32)) (h : mleaps n F w x1 x2 x3 = some x) : mC s0 D cB cI cJ cD am a1 a2 a3 yX12_leaps cX12_leaps 4 (some .int) 3 74 [.int x1, .int x2, .int x3] F G tp w oc (some (.int x.1)) x.2 G tp w oc := by
  intro hi hm nx Q hW hQ0
  have hQ : ∀ r : Int32 × (Nat → Int32), x = r → ∀ hm', mW cB cI am a1 a2 a3 r.2 G tp w oc hm' → mFr am a1 a2 a3 hm hm' → Q (some (.int r.1)) hi hm' nx := fun r hr => by subst hr; exact hQ0
  have hFr : mFr am a1 a2 a3 hm hm := mFr.rf
  clear hQ0
  refine zM_of (by decide +kernel) (Nat.le_of_ble_eq_true rfl) ?_
  unfold mleaps at h
  refine zV_eq (lo2 := [(0, .ref am), (1, .int x1), (2, .int x2), (3, .int x3)]) rfl rfl rfl rfl ?_
  refine zV_blk (pc' := 2) (lo' := [(0, .ref am), (1, .int x1), (2, .int x2), (3, .int x3)]) (st' := [.int 0, .ref am]) [.aload_n 0, .iconst 0] (by decide +kernel) rfl ?_
  refine m_put (idx := 25) (k := 0) (v := .int 0) (F' := (upd F 0 0)) (G' := G) hW m_in12 (by decide) (zT_mem 1440 (by decide +kernel) rfl) rfl rfl rfl rfl (by decide +kernel) (fun hm hW hFr2 => ?_)
  replace hFr := hFr.tr hFr2; clear hFr2
  refine zV_blk (pc' := 7) (lo' := [(0, .ref am), (1, .int x1), (2, .int x2), (3, .int x3)]) (st' := [.int x1, .ref am]) [.aload_n 0, .iload_n 1] (by decide +kernel) rfl ?_
  obtain ⟨v1, hv1, h⟩ := zbind h
  refine m_cR (idx := 273) (rest := []) hW (cmisThere s0 D cB cI cJ cD am a1 a2 a3 (upd F 0 0) G tp w oc x1 v1 hv1) oX12_isThere rfl (zT_mem 1686 (by decide +kernel) rfl) (zT_mem 1688 (by decide +kernel) rfl) (zT_mem 49 (by decide +kernel) rfl) rfl rfl (Nat.le_of_ble_eq_true rfl) ⟨by decide, by decide⟩ (by decide +kernel) ?_
  refine zV_eq (st2 := [.int (zb v1)]) rfl rfl rfl rfl ?_
  refine zV_bif_eq (tgt := 29) (off := 19) (by decide +kernel) (by decide) (fun q => ?_) (fun q => ?_)
  · replace h := zif_neg q h
    clear q
    refine zV_blk (pc' := 30) (lo' := [(0, .ref am), (1, .int x1), (2, .int x2), (3, .int x3)]) (st' := [.int (-1)]) [.iconst (-1)] (by decide +kernel) rfl ?_
    obtain rfl := Option.some.inj h
    exact zV_iret rfl (by decide +kernel) (hQ _ rfl hm hW hFr)
  · replace h := zif_pos q h
    clear q
    refine zV_blk (pc' := 15) (lo' := [(0, .ref am), (1, .int x1), (2, .int x2), (3, .int x3)]) (st' := [.long (x2 : Int32).toInt64]) [.iload_n 2, .i2l] (by decide +kernel) rfl ?_
    obtain ⟨v2, hv2, h⟩ := zbind h
    refine zV_sC (idx := 255) (rest := []) (cmisYear s0 D cB cI cJ cD (x2 : Int32).toInt64 v2 hv2) oX12_isYear (zT_mem 1817 (by decide +kernel) rfl) (zT_mem 1818 (by decide +kernel) rfl) rfl rfl (Nat.le_of_ble_eq_true rfl) ⟨by decide, by decide⟩ (by decide +kernel) ?_
    refine zV_eq (st2 := [.int (zb v2)]) rfl rfl rfl rfl ?_
    refine zV_bif_eq (tgt := 29) (off := 11) (by decide +kernel) (by decide) (fun q => ?_) (fun q => ?_)
    · replace h := zif_neg q h
      clear q
      refine zV_blk (pc' := 30) (lo' := [(0, .ref am), (1, .int x1), (2, .int x2), (3, .int x3)]) (st' := [.int (-1)]) [.iconst (-1)] (by decide +kernel) rfl ?_
      obtain rfl := Option.some.inj h
      exact zV_iret rfl (by decide +kernel) (hQ _ rfl hm hW hFr)
    · replace h := zif_pos q h
      clear q
      refine zV_blk (pc' := 23) (lo' := [(0, .ref am), (1, .int x1), (2, .int x2), (3, .int x3)]) (st' := [.long (x3 : Int32).toInt64]) [.iload_n 3, .i2l] (by decide +kernel) rfl ?_
      obtain ⟨v3, hv3, h⟩ := zbind h
      refine zV_sC (idx := 255) (rest := []) (cmisYear s0 D cB cI cJ cD (x3 : Int32).toInt64 v3 hv3) oX12_isYear (zT_mem 1817 (by decide +kernel) rfl) (zT_mem 1818 (by decide +kernel) rfl) rfl rfl (Nat.le_of_ble_eq_true rfl) ⟨by decide, by decide⟩ (by decide +kernel) ?_
      refine zV_eq (st2 := [.int (zb v3)]) rfl rfl rfl rfl ?_
      refine zV_bif_ne (tgt := 31) (off := 5) (by decide +kernel) (by decide) (fun q => ?_) (fun q => ?_)
      · replace h := zif_pos q h
        clear q
        refine zV_blk (pc' := 33) (lo' := [(0, .ref am), (1, .int x1), (2, .int x2), (3, .int x3)]) (st' := [.int x3, .int x2]) [.iload_n 2, .iload_n 3] (by decide +kernel) rfl ?_
        refine zV_icmp_lt (tgt := 40) (off := 7) (by decide +kernel) (by decide) (fun q => ?_) (fun q => ?_)
        · replace h := zif_pos q h
          clear q
          refine zV_blk (pc' := 42) (lo' := [(0, .ref am), (1, .int x1), (2, .int x2), (3, .int x3)]) (st' := [.int x1, .ref am]) [.aload_n 0, .iload_n 1] (by decide +kernel) rfl ?_
          obtain ⟨v4, hv4, h⟩ := zbind h
          refine zV_sC (idx := 118) (rest := [.ref am]) (cmbank s0 D cB cI cJ cD x1 v4 hv4) oX12_bank (zT_mem 1671 (by decide +kernel) rfl) (zT_mem 1672 (by decide +kernel) rfl) rfl rfl (Nat.le_of_ble_eq_true rfl) ⟨by decide, by decide⟩ (by decide +kernel) ?_
          refine zV_eq (st2 := [.int v4, .ref am]) rfl rfl rfl rfl ?_
          refine zV_blk (pc' := 47) (lo' := [(0, .ref am), (1, .int x1), (2, .int x2), (3, .int x3)]) (st' := [.long (x3 : Int32).toInt64, .int v4, .ref am]) [.iload_n 3, .i2l] (by decide +kernel) rfl ?_
          obtain ⟨v5, hv5, h⟩ := zbind h
          refine m_cR (idx := 232) (rest := []) hW (cmleapsTo s0 D cB cI cJ cD am a1 a2 a3 (upd F 0 0) G tp w oc n v4 (x3 : Int32).toInt64 v5 hv5) oX12_leapsTo rfl (zT_mem 1694 (by decide +kernel) rfl) (zT_mem 1696 (by decide +kernel) rfl) (zT_mem 51 (by decide +kernel) rfl) rfl rfl (Nat.le_of_ble_eq_true rfl) ⟨by decide, by decide⟩ (by decide +kernel) ?_
          refine zV_eq (st2 := [.long v5]) rfl rfl rfl rfl ?_
          refine zV_blk (pc' := 52) (lo' := [(0, .ref am), (1, .int x1), (2, .int x2), (3, .int x3)]) (st' := [.int x1, .ref am, .long v5]) [.aload_n 0, .iload_n 1] (by decide +kernel) rfl ?_
          obtain ⟨v6, hv6, h⟩ := zbind h
          refine zV_sC (idx := 118) (rest := [.ref am, .long v5]) (cmbank s0 D cB cI cJ cD x1 v6 hv6) oX12_bank (zT_mem 1671 (by decide +kernel) rfl) (zT_mem 1672 (by decide +kernel) rfl) rfl rfl (Nat.le_of_ble_eq_true rfl) ⟨by decide, by decide⟩ (by decide +kernel) ?_
          refine zV_eq (st2 := [.int v6, .ref am, .long v5]) rfl rfl rfl rfl ?_
          refine zV_blk (pc' := 57) (lo' := [(0, .ref am), (1, .int x1), (2, .int x2), (3, .int x3)]) (st' := [.long (x2 : Int32).toInt64, .int v6, .ref am, .long v5]) [.iload_n 2, .i2l] (by decide +kernel) rfl ?_
          obtain ⟨v7, hv7, h⟩ := zbind h
          refine m_cR (idx := 232) (rest := [.long v5]) hW (cmleapsTo s0 D cB cI cJ cD am a1 a2 a3 (upd F 0 0) G tp w oc n v6 (x2 : Int32).toInt64 v7 hv7) oX12_leapsTo rfl (zT_mem 1694 (by decide +kernel) rfl) (zT_mem 1696 (by decide +kernel) rfl) (zT_mem 51 (by decide +kernel) rfl) rfl rfl (Nat.le_of_ble_eq_true rfl) ⟨by decide, by decide⟩ (by decide +kernel) ?_
          refine zV_eq (st2 := [.long v7, .long v5]) rfl rfl rfl rfl ?_
          refine zV_blk (pc' := 62) (lo' := [(0, .ref am), (1, .int x1), (2, .int x2), (3, .int x3)]) (st' := [.int ((v5 - v7) : Int64).toInt32]) [.lsub, .l2i] (by decide +kernel) rfl ?_
          obtain rfl := Option.some.inj h
          exact zV_iret rfl (by decide +kernel) (hQ _ rfl hm hW hFr)
        · replace h := zif_neg q h
          clear q
          refine zV_blk (pc' := 37) (lo' := [(0, .ref am), (1, .int x1), (2, .int x2), (3, .int x3)]) (st' := [.int 0]) [.iconst 0] (by decide +kernel) rfl ?_
          refine zV_goto (tgt := 62) (off := 25) (by decide +kernel) (by decide) ?_
          obtain rfl := Option.some.inj h
          exact zV_iret rfl (by decide +kernel) (hQ _ rfl hm hW hFr)
      · replace h := zif_neg q h
        clear q
        refine zV_blk (pc' := 30) (lo' := [(0, .ref am), (1, .int x1), (2, .int x2), (3, .int x3)]) (st' := [.int (-1)]) [.iconst (-1)] (by decide +kernel) rfl ?_
        obtain rfl := Option.some.inj h
        exact zV_iret rfl (by decide +kernel) (hQ _ rfl hm hW hFr)

def mstart (n : Nat) (F : Nat → Int32) (w : Nat → Int32) (x1 : Int32) (x2 : Int32) : Option (Int64 × (Nat → Int32)) := (misThere w x1).bind (fun v1 => (if v1 = true then (misYear (x2 : Int32).toInt64).bind (fun v2 => (if v2 = true then (mbank x1).bind (fun v3 => (mstartOf n w v3 (x2 : Int32).toInt64).bind (fun v4 => some (v4, (upd F 0 0)))) else some ((-1000000000000000), (upd F 0 0)))) else some ((-1000000000000000), (upd F 0 0))))
theorem oX12_start : zO yX12_start cX12_start 3 (some .long) 2 := ⟨zT_mem 1832 (by decide +kernel) rfl, zT_mem 94 (by decide +kernel) rfl, by decide +kernel, by decide +kernel, by decide +kernel⟩
set_option maxHeartbeats 4000000 in
set_option maxRecDepth 100000 in
theorem cmstart (s0 : State) (D : va_G) (cB cI cJ cD : ClassId) (am a1 a2 a3 : Nat) (F : Nat → Int32) (G : Nat → Int64) (tp w oc : Nat → Int32) (n : Nat) (x1 : Int32) (x2 : Int32) (x : Int64 × (Nat → Int32)) (h : mstart n F w x1 x2 = some x) : mC s0 D cB cI cJ cD am a1 a2 a3 yX12_start cX12_start 3 (some .long) 4 97 [.int x1, .int x2] F G tp w oc (some (.long x.1)) x.2 G tp w oc := by
  intro hi hm nx Q hW hQ0
  have hQ : ∀ r : Int64 × (Nat → Int32), x = r → ∀ hm', mW cB cI am a1 a2 a3 r.2 G tp w oc hm' → mFr am a1 a2 a3 hm hm' → Q (some (.long r.1)) hi hm' nx := fun r hr => by subst hr; exact hQ0
  have hFr : mFr am a1 a2 a3 hm hm := mFr.rf
  clear hQ0
  refine zM_of (by decide +kernel) (Nat.le_of_ble_eq_true rfl) ?_
  unfold mstart at h
  refine zV_eq (lo2 := [(0, .ref am), (1, .int x1), (2, .int x2)]) rfl rfl rfl rfl ?_
  refine zV_blk (pc' := 2) (lo' := [(0, .ref am), (1, .int x1), (2, .int x2)]) (st' := [.int 0, .ref am]) [.aload_n 0, .iconst 0] (by decide +kernel) rfl ?_
  refine m_put (idx := 25) (k := 0) (v := .int 0) (F' := (upd F 0 0)) (G' := G) hW m_in12 (by decide) (zT_mem 1440 (by decide +kernel) rfl) rfl rfl rfl rfl (by decide +kernel) (fun hm hW hFr2 => ?_)
  replace hFr := hFr.tr hFr2; clear hFr2
  refine zV_blk (pc' := 7) (lo' := [(0, .ref am), (1, .int x1), (2, .int x2)]) (st' := [.int x1, .ref am]) [.aload_n 0, .iload_n 1] (by decide +kernel) rfl ?_
  obtain ⟨v1, hv1, h⟩ := zbind h
  refine m_cR (idx := 273) (rest := []) hW (cmisThere s0 D cB cI cJ cD am a1 a2 a3 (upd F 0 0) G tp w oc x1 v1 hv1) oX12_isThere rfl (zT_mem 1686 (by decide +kernel) rfl) (zT_mem 1688 (by decide +kernel) rfl) (zT_mem 49 (by decide +kernel) rfl) rfl rfl (Nat.le_of_ble_eq_true rfl) ⟨by decide, by decide⟩ (by decide +kernel) ?_
  refine zV_eq (st2 := [.int (zb v1)]) rfl rfl rfl rfl ?_
  refine zV_bif_eq (tgt := 34) (off := 24) (by decide +kernel) (by decide) (fun q => ?_) (fun q => ?_)
  · replace h := zif_neg q h
    clear q
    refine zV_ldc2 (idx := 40) (v := (-1000000000000000)) (zT_mem 1728 (by decide +kernel) rfl) (by decide +kernel) ?_
    obtain rfl := Option.some.inj h
    exact zV_lret rfl (by decide +kernel) (hQ _ rfl hm hW hFr)
  · replace h := zif_pos q h
    clear q
    refine zV_blk (pc' := 15) (lo' := [(0, .ref am), (1, .int x1), (2, .int x2)]) (st' := [.long (x2 : Int32).toInt64]) [.iload_n 2, .i2l] (by decide +kernel) rfl ?_
    obtain ⟨v2, hv2, h⟩ := zbind h
    refine zV_sC (idx := 255) (rest := []) (cmisYear s0 D cB cI cJ cD (x2 : Int32).toInt64 v2 hv2) oX12_isYear (zT_mem 1817 (by decide +kernel) rfl) (zT_mem 1818 (by decide +kernel) rfl) rfl rfl (Nat.le_of_ble_eq_true rfl) ⟨by decide, by decide⟩ (by decide +kernel) ?_
    refine zV_eq (st2 := [.int (zb v2)]) rfl rfl rfl rfl ?_
    refine zV_bif_eq (tgt := 34) (off := 16) (by decide +kernel) (by decide) (fun q => ?_) (fun q => ?_)
    · replace h := zif_neg q h
      clear q
      refine zV_ldc2 (idx := 40) (v := (-1000000000000000)) (zT_mem 1728 (by decide +kernel) rfl) (by decide +kernel) ?_
      obtain rfl := Option.some.inj h
      exact zV_lret rfl (by decide +kernel) (hQ _ rfl hm hW hFr)
    · replace h := zif_pos q h
      clear q
      refine zV_blk (pc' := 23) (lo' := [(0, .ref am), (1, .int x1), (2, .int x2)]) (st' := [.int x1, .ref am]) [.aload_n 0, .iload_n 1] (by decide +kernel) rfl ?_
      obtain ⟨v3, hv3, h⟩ := zbind h
      refine zV_sC (idx := 118) (rest := [.ref am]) (cmbank s0 D cB cI cJ cD x1 v3 hv3) oX12_bank (zT_mem 1671 (by decide +kernel) rfl) (zT_mem 1672 (by decide +kernel) rfl) rfl rfl (Nat.le_of_ble_eq_true rfl) ⟨by decide, by decide⟩ (by decide +kernel) ?_
      refine zV_eq (st2 := [.int v3, .ref am]) rfl rfl rfl rfl ?_
      refine zV_blk (pc' := 28) (lo' := [(0, .ref am), (1, .int x1), (2, .int x2)]) (st' := [.long (x2 : Int32).toInt64, .int v3, .ref am]) [.iload_n 2, .i2l] (by decide +kernel) rfl ?_
      obtain ⟨v4, hv4, h⟩ := zbind h
      refine m_cR (idx := 244) (rest := []) hW (cmstartOf s0 D cB cI cJ cD am a1 a2 a3 (upd F 0 0) G tp w oc n v3 (x2 : Int32).toInt64 v4 hv4) oX12_startOf rfl (zT_mem 1742 (by decide +kernel) rfl) (zT_mem 1744 (by decide +kernel) rfl) (zT_mem 56 (by decide +kernel) rfl) rfl rfl (Nat.le_of_ble_eq_true rfl) ⟨by decide, by decide⟩ (by decide +kernel) ?_
      refine zV_eq (st2 := [.long v4]) rfl rfl rfl rfl ?_
      refine zV_goto (tgt := 37) (off := 6) (by decide +kernel) (by decide) ?_
      obtain rfl := Option.some.inj h
      exact zV_lret rfl (by decide +kernel) (hQ _ rfl hm hW hFr)

def mnumber (n : Nat) (F : Nat → Int32) (w : Nat → Int32) (x1 : Int32) (x2 : Int32) (x3 : Int32) : Option (Int64 × (Nat → Int32)) := (misThere w x1).bind (fun v1 => (if v1 = true then (misYear (x2 : Int32).toInt64).bind (fun v2 => (if v2 = true then (mbank x1).bind (fun v3 => (mdaysOf n w v3 (x2 : Int32).toInt64).bind (fun v4 => (misIn (x3 : Int32).toInt64 0 ((v4 - 1) : Int32).toInt64).bind (fun v5 => (if v5 = true then (mbank x1).bind (fun v6 => (mstartOf n w v6 (x2 : Int32).toInt64).bind (fun v7 => some ((v7 + (x3 : Int32).toInt64), (upd F 0 0)))) else some ((-1000000000000000), (upd F 0 0)))))) else some ((-1000000000000000), (upd F 0 0)))) else some ((-1000000000000000), (upd F 0 0))))
theorem oX12_number : zO yX12_number cX12_number 4 (some .long) 3 := ⟨zT_mem 1836 (by decide +kernel) rfl, zT_mem 94 (by decide +kernel) rfl, by decide +kernel, by decide +kernel, by decide +kernel⟩
set_option maxHeartbeats 4000000 in
set_option maxRecDepth 100000 in
theorem cmnumber (s0 : State) (D : va_G) (cB cI cJ cD : ClassId) (am a1 a2 a3 : Nat) (F : Nat → Int32) (G : Nat → Int64) (tp w oc : Nat → Int32) (n : Nat) (x1 : Int32) (x2 : Int32) (x3 : Int32) (x : Int64 × (Nat → Int32)) (h : mnumber n F w x1 x2 x3 = some x) : mC s0 D cB cI cJ cD am a1 a2 a3 yX12_number cX12_number 4 (some .long) 4 97 [.int x1, .int x2, .int x3] F G tp w oc (some (.long x.1)) x.2 G tp w oc := by
  intro hi hm nx Q hW hQ0
  have hQ : ∀ r : Int64 × (Nat → Int32), x = r → ∀ hm', mW cB cI am a1 a2 a3 r.2 G tp w oc hm' → mFr am a1 a2 a3 hm hm' → Q (some (.long r.1)) hi hm' nx := fun r hr => by subst hr; exact hQ0
  have hFr : mFr am a1 a2 a3 hm hm := mFr.rf
  clear hQ0
  refine zM_of (by decide +kernel) (Nat.le_of_ble_eq_true rfl) ?_
  unfold mnumber at h
  refine zV_eq (lo2 := [(0, .ref am), (1, .int x1), (2, .int x2), (3, .int x3)]) rfl rfl rfl rfl ?_
  refine zV_blk (pc' := 2) (lo' := [(0, .ref am), (1, .int x1), (2, .int x2), (3, .int x3)]) (st' := [.int 0, .ref am]) [.aload_n 0, .iconst 0] (by decide +kernel) rfl ?_
  refine m_put (idx := 25) (k := 0) (v := .int 0) (F' := (upd F 0 0)) (G' := G) hW m_in12 (by decide) (zT_mem 1440 (by decide +kernel) rfl) rfl rfl rfl rfl (by decide +kernel) (fun hm hW hFr2 => ?_)
  replace hFr := hFr.tr hFr2; clear hFr2
  refine zV_blk (pc' := 7) (lo' := [(0, .ref am), (1, .int x1), (2, .int x2), (3, .int x3)]) (st' := [.int x1, .ref am]) [.aload_n 0, .iload_n 1] (by decide +kernel) rfl ?_
  obtain ⟨v1, hv1, h⟩ := zbind h
  refine m_cR (idx := 273) (rest := []) hW (cmisThere s0 D cB cI cJ cD am a1 a2 a3 (upd F 0 0) G tp w oc x1 v1 hv1) oX12_isThere rfl (zT_mem 1686 (by decide +kernel) rfl) (zT_mem 1688 (by decide +kernel) rfl) (zT_mem 49 (by decide +kernel) rfl) rfl rfl (Nat.le_of_ble_eq_true rfl) ⟨by decide, by decide⟩ (by decide +kernel) ?_
  refine zV_eq (st2 := [.int (zb v1)]) rfl rfl rfl rfl ?_
  refine zV_bif_eq (tgt := 59) (off := 49) (by decide +kernel) (by decide) (fun q => ?_) (fun q => ?_)
  · replace h := zif_neg q h
    clear q
    refine zV_ldc2 (idx := 40) (v := (-1000000000000000)) (zT_mem 1728 (by decide +kernel) rfl) (by decide +kernel) ?_
    obtain rfl := Option.some.inj h
    exact zV_lret rfl (by decide +kernel) (hQ _ rfl hm hW hFr)
  · replace h := zif_pos q h
    clear q
    refine zV_blk (pc' := 15) (lo' := [(0, .ref am), (1, .int x1), (2, .int x2), (3, .int x3)]) (st' := [.long (x2 : Int32).toInt64]) [.iload_n 2, .i2l] (by decide +kernel) rfl ?_
    obtain ⟨v2, hv2, h⟩ := zbind h
    refine zV_sC (idx := 255) (rest := []) (cmisYear s0 D cB cI cJ cD (x2 : Int32).toInt64 v2 hv2) oX12_isYear (zT_mem 1817 (by decide +kernel) rfl) (zT_mem 1818 (by decide +kernel) rfl) rfl rfl (Nat.le_of_ble_eq_true rfl) ⟨by decide, by decide⟩ (by decide +kernel) ?_
    refine zV_eq (st2 := [.int (zb v2)]) rfl rfl rfl rfl ?_
    refine zV_bif_eq (tgt := 59) (off := 41) (by decide +kernel) (by decide) (fun q => ?_) (fun q => ?_)
    · replace h := zif_neg q h
      clear q
      refine zV_ldc2 (idx := 40) (v := (-1000000000000000)) (zT_mem 1728 (by decide +kernel) rfl) (by decide +kernel) ?_
      obtain rfl := Option.some.inj h
      exact zV_lret rfl (by decide +kernel) (hQ _ rfl hm hW hFr)
    · replace h := zif_pos q h
      clear q
      refine zV_blk (pc' := 26) (lo' := [(0, .ref am), (1, .int x1), (2, .int x2), (3, .int x3)]) (st' := [.int x1, .ref am, .long 0, .long (x3 : Int32).toInt64]) [.iload_n 3, .i2l, .lconst 0, .aload_n 0, .iload_n 1] (by decide +kernel) rfl ?_
      obtain ⟨v3, hv3, h⟩ := zbind h
      refine zV_sC (idx := 118) (rest := [.ref am, .long 0, .long (x3 : Int32).toInt64]) (cmbank s0 D cB cI cJ cD x1 v3 hv3) oX12_bank (zT_mem 1671 (by decide +kernel) rfl) (zT_mem 1672 (by decide +kernel) rfl) rfl rfl (Nat.le_of_ble_eq_true rfl) ⟨by decide, by decide⟩ (by decide +kernel) ?_
      refine zV_eq (st2 := [.int v3, .ref am, .long 0, .long (x3 : Int32).toInt64]) rfl rfl rfl rfl ?_
      refine zV_blk (pc' := 31) (lo' := [(0, .ref am), (1, .int x1), (2, .int x2), (3, .int x3)]) (st' := [.long (x2 : Int32).toInt64, .int v3, .ref am, .long 0, .long (x3 : Int32).toInt64]) [.iload_n 2, .i2l] (by decide +kernel) rfl ?_
      obtain ⟨v4, hv4, h⟩ := zbind h
      refine m_cR (idx := 325) (rest := [.long 0, .long (x3 : Int32).toInt64]) hW (cmdaysOf s0 D cB cI cJ cD am a1 a2 a3 (upd F 0 0) G tp w oc n v3 (x2 : Int32).toInt64 v4 hv4) oX12_daysOf rfl (zT_mem 1837 (by decide +kernel) rfl) (zT_mem 1839 (by decide +kernel) rfl) (zT_mem 65 (by decide +kernel) rfl) rfl rfl (Nat.le_of_ble_eq_true rfl) ⟨by decide, by decide⟩ (by decide +kernel) ?_
      refine zV_eq (st2 := [.int v4, .long 0, .long (x3 : Int32).toInt64]) rfl rfl rfl rfl ?_
      refine zV_blk (pc' := 37) (lo' := [(0, .ref am), (1, .int x1), (2, .int x2), (3, .int x3)]) (st' := [.long ((v4 - 1) : Int32).toInt64, .long 0, .long (x3 : Int32).toInt64]) [.iconst 1, .isub, .i2l] (by decide +kernel) rfl ?_
      obtain ⟨v5, hv5, h⟩ := zbind h
      refine zV_sC (idx := 36) (rest := []) (cmisIn s0 D cB cI cJ cD (x3 : Int32).toInt64 0 ((v4 - 1) : Int32).toInt64 v5 hv5) oX12_isIn (zT_mem 1531 (by decide +kernel) rfl) (zT_mem 1532 (by decide +kernel) rfl) rfl rfl (Nat.le_of_ble_eq_true rfl) ⟨by decide, by decide⟩ (by decide +kernel) ?_
      refine zV_eq (st2 := [.int (zb v5)]) rfl rfl rfl rfl ?_
      refine zV_bif_eq (tgt := 59) (off := 19) (by decide +kernel) (by decide) (fun q => ?_) (fun q => ?_)
      · replace h := zif_neg q h
        clear q
        refine zV_ldc2 (idx := 40) (v := (-1000000000000000)) (zT_mem 1728 (by decide +kernel) rfl) (by decide +kernel) ?_
        obtain rfl := Option.some.inj h
        exact zV_lret rfl (by decide +kernel) (hQ _ rfl hm hW hFr)
      · replace h := zif_pos q h
        clear q
        refine zV_blk (pc' := 45) (lo' := [(0, .ref am), (1, .int x1), (2, .int x2), (3, .int x3)]) (st' := [.int x1, .ref am]) [.aload_n 0, .iload_n 1] (by decide +kernel) rfl ?_
        obtain ⟨v6, hv6, h⟩ := zbind h
        refine zV_sC (idx := 118) (rest := [.ref am]) (cmbank s0 D cB cI cJ cD x1 v6 hv6) oX12_bank (zT_mem 1671 (by decide +kernel) rfl) (zT_mem 1672 (by decide +kernel) rfl) rfl rfl (Nat.le_of_ble_eq_true rfl) ⟨by decide, by decide⟩ (by decide +kernel) ?_
        refine zV_eq (st2 := [.int v6, .ref am]) rfl rfl rfl rfl ?_
        refine zV_blk (pc' := 50) (lo' := [(0, .ref am), (1, .int x1), (2, .int x2), (3, .int x3)]) (st' := [.long (x2 : Int32).toInt64, .int v6, .ref am]) [.iload_n 2, .i2l] (by decide +kernel) rfl ?_
        obtain ⟨v7, hv7, h⟩ := zbind h
        refine m_cR (idx := 244) (rest := []) hW (cmstartOf s0 D cB cI cJ cD am a1 a2 a3 (upd F 0 0) G tp w oc n v6 (x2 : Int32).toInt64 v7 hv7) oX12_startOf rfl (zT_mem 1742 (by decide +kernel) rfl) (zT_mem 1744 (by decide +kernel) rfl) (zT_mem 56 (by decide +kernel) rfl) rfl rfl (Nat.le_of_ble_eq_true rfl) ⟨by decide, by decide⟩ (by decide +kernel) ?_
        refine zV_eq (st2 := [.long v7]) rfl rfl rfl rfl ?_
        refine zV_blk (pc' := 56) (lo' := [(0, .ref am), (1, .int x1), (2, .int x2), (3, .int x3)]) (st' := [.long (v7 + (x3 : Int32).toInt64)]) [.iload_n 3, .i2l, .ladd] (by decide +kernel) rfl ?_
        refine zV_goto (tgt := 62) (off := 6) (by decide +kernel) (by decide) ?_
        obtain rfl := Option.some.inj h
        exact zV_lret rfl (by decide +kernel) (hQ _ rfl hm hW hFr)

def mdate (n : Nat) (F : Nat → Int32) (w : Nat → Int32) (x1 : Int32) (x2 : Int64) (x4 : Int32) : Option (Int64 × (Nat → Int32)) := (misThere w x1).bind (fun v1 => (if v1 = true then (mbank x1).bind (fun v2 => (misDay n w v2 x2).bind (fun v3 => (if v3 = true then (misIn (x4 : Int32).toInt64 0 4).bind (fun v4 => (if v4 = true then (mbank x1).bind (fun v5 => (mdateOf n w v5 x2 x4).bind (fun v6 => some (v6, (upd F 0 0)))) else some ((-1000000000000000), (upd F 0 0)))) else some ((-1000000000000000), (upd F 0 0))))) else some ((-1000000000000000), (upd F 0 0))))
theorem oX12_date : zO yX12_date cX12_date 5 (some .long) 3 := ⟨zT_mem 1844 (by decide +kernel) rfl, zT_mem 94 (by decide +kernel) rfl, by decide +kernel, by decide +kernel, by decide +kernel⟩
set_option maxHeartbeats 4000000 in
set_option maxRecDepth 100000 in
theorem cmdate (s0 : State) (D : va_G) (cB cI cJ cD : ClassId) (am a1 a2 a3 : Nat) (F : Nat → Int32) (G : Nat → Int64) (tp w oc : Nat → Int32) (n : Nat) (x1 : Int32) (x2 : Int64) (x4 : Int32) (x : Int64 × (Nat → Int32)) (h : mdate n F w x1 x2 x4 = some x) : mC s0 D cB cI cJ cD am a1 a2 a3 yX12_date cX12_date 5 (some .long) 6 156 [.int x1, .long x2, .int x4] F G tp w oc (some (.long x.1)) x.2 G tp w oc := by
  intro hi hm nx Q hW hQ0
  have hQ : ∀ r : Int64 × (Nat → Int32), x = r → ∀ hm', mW cB cI am a1 a2 a3 r.2 G tp w oc hm' → mFr am a1 a2 a3 hm hm' → Q (some (.long r.1)) hi hm' nx := fun r hr => by subst hr; exact hQ0
  have hFr : mFr am a1 a2 a3 hm hm := mFr.rf
  clear hQ0
  refine zM_of (by decide +kernel) (Nat.le_of_ble_eq_true rfl) ?_
  unfold mdate at h
  refine zV_eq (lo2 := [(0, .ref am), (1, .int x1), (2, .long x2), (4, .int x4)]) rfl rfl rfl rfl ?_
  refine zV_blk (pc' := 2) (lo' := [(0, .ref am), (1, .int x1), (2, .long x2), (4, .int x4)]) (st' := [.int 0, .ref am]) [.aload_n 0, .iconst 0] (by decide +kernel) rfl ?_
  refine m_put (idx := 25) (k := 0) (v := .int 0) (F' := (upd F 0 0)) (G' := G) hW m_in12 (by decide) (zT_mem 1440 (by decide +kernel) rfl) rfl rfl rfl rfl (by decide +kernel) (fun hm hW hFr2 => ?_)
  replace hFr := hFr.tr hFr2; clear hFr2
  refine zV_blk (pc' := 7) (lo' := [(0, .ref am), (1, .int x1), (2, .long x2), (4, .int x4)]) (st' := [.int x1, .ref am]) [.aload_n 0, .iload_n 1] (by decide +kernel) rfl ?_
  obtain ⟨v1, hv1, h⟩ := zbind h
  refine m_cR (idx := 273) (rest := []) hW (cmisThere s0 D cB cI cJ cD am a1 a2 a3 (upd F 0 0) G tp w oc x1 v1 hv1) oX12_isThere rfl (zT_mem 1686 (by decide +kernel) rfl) (zT_mem 1688 (by decide +kernel) rfl) (zT_mem 49 (by decide +kernel) rfl) rfl rfl (Nat.le_of_ble_eq_true rfl) ⟨by decide, by decide⟩ (by decide +kernel) ?_
  refine zV_eq (st2 := [.int (zb v1)]) rfl rfl rfl rfl ?_
  refine zV_bif_eq (tgt := 52) (off := 42) (by decide +kernel) (by decide) (fun q => ?_) (fun q => ?_)
  · replace h := zif_neg q h
    clear q
    refine zV_ldc2 (idx := 40) (v := (-1000000000000000)) (zT_mem 1728 (by decide +kernel) rfl) (by decide +kernel) ?_
    obtain rfl := Option.some.inj h
    exact zV_lret rfl (by decide +kernel) (hQ _ rfl hm hW hFr)
  · replace h := zif_pos q h
    clear q
    refine zV_blk (pc' := 15) (lo' := [(0, .ref am), (1, .int x1), (2, .long x2), (4, .int x4)]) (st' := [.int x1, .ref am]) [.aload_n 0, .iload_n 1] (by decide +kernel) rfl ?_
    obtain ⟨v2, hv2, h⟩ := zbind h
    refine zV_sC (idx := 118) (rest := [.ref am]) (cmbank s0 D cB cI cJ cD x1 v2 hv2) oX12_bank (zT_mem 1671 (by decide +kernel) rfl) (zT_mem 1672 (by decide +kernel) rfl) rfl rfl (Nat.le_of_ble_eq_true rfl) ⟨by decide, by decide⟩ (by decide +kernel) ?_
    refine zV_eq (st2 := [.int v2, .ref am]) rfl rfl rfl rfl ?_
    refine zV_blk (pc' := 19) (lo' := [(0, .ref am), (1, .int x1), (2, .long x2), (4, .int x4)]) (st' := [.long x2, .int v2, .ref am]) [.lload_n 2] (by decide +kernel) rfl ?_
    obtain ⟨v3, hv3, h⟩ := zbind h
    refine m_cR (idx := 328) (rest := []) hW (cmisDay s0 D cB cI cJ cD am a1 a2 a3 (upd F 0 0) G tp w oc n v2 x2 v3 hv3) oX12_isDay rfl (zT_mem 1845 (by decide +kernel) rfl) (zT_mem 1847 (by decide +kernel) rfl) (zT_mem 66 (by decide +kernel) rfl) rfl rfl (Nat.le_of_ble_eq_true rfl) ⟨by decide, by decide⟩ (by decide +kernel) ?_
    refine zV_eq (st2 := [.int (zb v3)]) rfl rfl rfl rfl ?_
    refine zV_bif_eq (tgt := 52) (off := 30) (by decide +kernel) (by decide) (fun q => ?_) (fun q => ?_)
    · replace h := zif_neg q h
      clear q
      refine zV_ldc2 (idx := 40) (v := (-1000000000000000)) (zT_mem 1728 (by decide +kernel) rfl) (by decide +kernel) ?_
      obtain rfl := Option.some.inj h
      exact zV_lret rfl (by decide +kernel) (hQ _ rfl hm hW hFr)
    · replace h := zif_pos q h
      clear q
      refine zV_blk (pc' := 29) (lo' := [(0, .ref am), (1, .int x1), (2, .long x2), (4, .int x4)]) (st' := [.long 0, .long (x4 : Int32).toInt64]) [.iload 4, .i2l, .lconst 0] (by decide +kernel) rfl ?_
      refine zV_ldc2 (idx := 331) (v := 4) (zT_mem 1850 (by decide +kernel) rfl) (by decide +kernel) ?_
      obtain ⟨v4, hv4, h⟩ := zbind h
      refine zV_sC (idx := 36) (rest := []) (cmisIn s0 D cB cI cJ cD (x4 : Int32).toInt64 0 4 v4 hv4) oX12_isIn (zT_mem 1531 (by decide +kernel) rfl) (zT_mem 1532 (by decide +kernel) rfl) rfl rfl (Nat.le_of_ble_eq_true rfl) ⟨by decide, by decide⟩ (by decide +kernel) ?_
      refine zV_eq (st2 := [.int (zb v4)]) rfl rfl rfl rfl ?_
      refine zV_bif_eq (tgt := 52) (off := 17) (by decide +kernel) (by decide) (fun q => ?_) (fun q => ?_)
      · replace h := zif_neg q h
        clear q
        refine zV_ldc2 (idx := 40) (v := (-1000000000000000)) (zT_mem 1728 (by decide +kernel) rfl) (by decide +kernel) ?_
        obtain rfl := Option.some.inj h
        exact zV_lret rfl (by decide +kernel) (hQ _ rfl hm hW hFr)
      · replace h := zif_pos q h
        clear q
        refine zV_blk (pc' := 40) (lo' := [(0, .ref am), (1, .int x1), (2, .long x2), (4, .int x4)]) (st' := [.int x1, .ref am]) [.aload_n 0, .iload_n 1] (by decide +kernel) rfl ?_
        obtain ⟨v5, hv5, h⟩ := zbind h
        refine zV_sC (idx := 118) (rest := [.ref am]) (cmbank s0 D cB cI cJ cD x1 v5 hv5) oX12_bank (zT_mem 1671 (by decide +kernel) rfl) (zT_mem 1672 (by decide +kernel) rfl) rfl rfl (Nat.le_of_ble_eq_true rfl) ⟨by decide, by decide⟩ (by decide +kernel) ?_
        refine zV_eq (st2 := [.int v5, .ref am]) rfl rfl rfl rfl ?_
        refine zV_blk (pc' := 46) (lo' := [(0, .ref am), (1, .int x1), (2, .long x2), (4, .int x4)]) (st' := [.int x4, .long x2, .int v5, .ref am]) [.lload_n 2, .iload 4] (by decide +kernel) rfl ?_
        obtain ⟨v6, hv6, h⟩ := zbind h
        refine m_cR (idx := 333) (rest := []) hW (cmdateOf s0 D cB cI cJ cD am a1 a2 a3 (upd F 0 0) G tp w oc n v5 x2 x4 v6 hv6) oX12_dateOf rfl (zT_mem 1851 (by decide +kernel) rfl) (zT_mem 1853 (by decide +kernel) rfl) (zT_mem 67 (by decide +kernel) rfl) rfl rfl (Nat.le_of_ble_eq_true rfl) ⟨by decide, by decide⟩ (by decide +kernel) ?_
        refine zV_eq (st2 := [.long v6]) rfl rfl rfl rfl ?_
        refine zV_goto (tgt := 55) (off := 6) (by decide +kernel) (by decide) ?_
        obtain rfl := Option.some.inj h
        exact zV_lret rfl (by decide +kernel) (hQ _ rfl hm hW hFr)

def mdated (n : Nat) (F : Nat → Int32) (w : Nat → Int32) (x1 : Int32) (x2 : Int32) (x3 : Int32) (x4 : Int32) : Option (Int64 × (Nat → Int32)) := (misThere w x1).bind (fun v1 => (if v1 = true then (mbank x1).bind (fun v2 => (misDate n w v2 (x2 : Int32).toInt64 x3 x4).bind (fun v3 => (if v3 = true then (mbank x1).bind (fun v4 => (mnumberOf n w v4 (x2 : Int32).toInt64 x3 x4).bind (fun v5 => some (v5, (upd F 0 0)))) else some ((-1000000000000000), (upd F 0 0))))) else some ((-1000000000000000), (upd F 0 0))))
theorem oX12_dated : zO yX12_dated cX12_dated 5 (some .long) 4 := ⟨zT_mem 1867 (by decide +kernel) rfl, zT_mem 94 (by decide +kernel) rfl, by decide +kernel, by decide +kernel, by decide +kernel⟩
set_option maxHeartbeats 4000000 in
set_option maxRecDepth 100000 in
theorem cmdated (s0 : State) (D : va_G) (cB cI cJ cD : ClassId) (am a1 a2 a3 : Nat) (F : Nat → Int32) (G : Nat → Int64) (tp w oc : Nat → Int32) (n : Nat) (x1 : Int32) (x2 : Int32) (x3 : Int32) (x4 : Int32) (x : Int64 × (Nat → Int32)) (h : mdated n F w x1 x2 x3 x4 = some x) : mC s0 D cB cI cJ cD am a1 a2 a3 yX12_dated cX12_dated 5 (some .long) 5 124 [.int x1, .int x2, .int x3, .int x4] F G tp w oc (some (.long x.1)) x.2 G tp w oc := by
  intro hi hm nx Q hW hQ0
  have hQ : ∀ r : Int64 × (Nat → Int32), x = r → ∀ hm', mW cB cI am a1 a2 a3 r.2 G tp w oc hm' → mFr am a1 a2 a3 hm hm' → Q (some (.long r.1)) hi hm' nx := fun r hr => by subst hr; exact hQ0
  have hFr : mFr am a1 a2 a3 hm hm := mFr.rf
  clear hQ0
  refine zM_of (by decide +kernel) (Nat.le_of_ble_eq_true rfl) ?_
  unfold mdated at h
  refine zV_eq (lo2 := [(0, .ref am), (1, .int x1), (2, .int x2), (3, .int x3), (4, .int x4)]) rfl rfl rfl rfl ?_
  refine zV_blk (pc' := 2) (lo' := [(0, .ref am), (1, .int x1), (2, .int x2), (3, .int x3), (4, .int x4)]) (st' := [.int 0, .ref am]) [.aload_n 0, .iconst 0] (by decide +kernel) rfl ?_
  refine m_put (idx := 25) (k := 0) (v := .int 0) (F' := (upd F 0 0)) (G' := G) hW m_in12 (by decide) (zT_mem 1440 (by decide +kernel) rfl) rfl rfl rfl rfl (by decide +kernel) (fun hm hW hFr2 => ?_)
  replace hFr := hFr.tr hFr2; clear hFr2
  refine zV_blk (pc' := 7) (lo' := [(0, .ref am), (1, .int x1), (2, .int x2), (3, .int x3), (4, .int x4)]) (st' := [.int x1, .ref am]) [.aload_n 0, .iload_n 1] (by decide +kernel) rfl ?_
  obtain ⟨v1, hv1, h⟩ := zbind h
  refine m_cR (idx := 273) (rest := []) hW (cmisThere s0 D cB cI cJ cD am a1 a2 a3 (upd F 0 0) G tp w oc x1 v1 hv1) oX12_isThere rfl (zT_mem 1686 (by decide +kernel) rfl) (zT_mem 1688 (by decide +kernel) rfl) (zT_mem 49 (by decide +kernel) rfl) rfl rfl (Nat.le_of_ble_eq_true rfl) ⟨by decide, by decide⟩ (by decide +kernel) ?_
  refine zV_eq (st2 := [.int (zb v1)]) rfl rfl rfl rfl ?_
  refine zV_bif_eq (tgt := 45) (off := 35) (by decide +kernel) (by decide) (fun q => ?_) (fun q => ?_)
  · replace h := zif_neg q h
    clear q
    refine zV_ldc2 (idx := 40) (v := (-1000000000000000)) (zT_mem 1728 (by decide +kernel) rfl) (by decide +kernel) ?_
    obtain rfl := Option.some.inj h
    exact zV_lret rfl (by decide +kernel) (hQ _ rfl hm hW hFr)
  · replace h := zif_pos q h
    clear q
    refine zV_blk (pc' := 15) (lo' := [(0, .ref am), (1, .int x1), (2, .int x2), (3, .int x3), (4, .int x4)]) (st' := [.int x1, .ref am]) [.aload_n 0, .iload_n 1] (by decide +kernel) rfl ?_
    obtain ⟨v2, hv2, h⟩ := zbind h
    refine zV_sC (idx := 118) (rest := [.ref am]) (cmbank s0 D cB cI cJ cD x1 v2 hv2) oX12_bank (zT_mem 1671 (by decide +kernel) rfl) (zT_mem 1672 (by decide +kernel) rfl) rfl rfl (Nat.le_of_ble_eq_true rfl) ⟨by decide, by decide⟩ (by decide +kernel) ?_
    refine zV_eq (st2 := [.int v2, .ref am]) rfl rfl rfl rfl ?_
    refine zV_blk (pc' := 23) (lo' := [(0, .ref am), (1, .int x1), (2, .int x2), (3, .int x3), (4, .int x4)]) (st' := [.int x4, .int x3, .long (x2 : Int32).toInt64, .int v2, .ref am]) [.iload_n 2, .i2l, .iload_n 3, .iload 4] (by decide +kernel) rfl ?_
    obtain ⟨v3, hv3, h⟩ := zbind h
    refine m_cR (idx := 337) (rest := []) hW (cmisDate s0 D cB cI cJ cD am a1 a2 a3 (upd F 0 0) G tp w oc n v2 (x2 : Int32).toInt64 x3 x4 v3 hv3) oX12_isDate rfl (zT_mem 1868 (by decide +kernel) rfl) (zT_mem 1870 (by decide +kernel) rfl) (zT_mem 70 (by decide +kernel) rfl) rfl rfl (Nat.le_of_ble_eq_true rfl) ⟨by decide, by decide⟩ (by decide +kernel) ?_
    refine zV_eq (st2 := [.int (zb v3)]) rfl rfl rfl rfl ?_
    refine zV_bif_eq (tgt := 45) (off := 19) (by decide +kernel) (by decide) (fun q => ?_) (fun q => ?_)
    · replace h := zif_neg q h
      clear q
      refine zV_ldc2 (idx := 40) (v := (-1000000000000000)) (zT_mem 1728 (by decide +kernel) rfl) (by decide +kernel) ?_
      obtain rfl := Option.some.inj h
      exact zV_lret rfl (by decide +kernel) (hQ _ rfl hm hW hFr)
    · replace h := zif_pos q h
      clear q
      refine zV_blk (pc' := 31) (lo' := [(0, .ref am), (1, .int x1), (2, .int x2), (3, .int x3), (4, .int x4)]) (st' := [.int x1, .ref am]) [.aload_n 0, .iload_n 1] (by decide +kernel) rfl ?_
      obtain ⟨v4, hv4, h⟩ := zbind h
      refine zV_sC (idx := 118) (rest := [.ref am]) (cmbank s0 D cB cI cJ cD x1 v4 hv4) oX12_bank (zT_mem 1671 (by decide +kernel) rfl) (zT_mem 1672 (by decide +kernel) rfl) rfl rfl (Nat.le_of_ble_eq_true rfl) ⟨by decide, by decide⟩ (by decide +kernel) ?_
      refine zV_eq (st2 := [.int v4, .ref am]) rfl rfl rfl rfl ?_
      refine zV_blk (pc' := 39) (lo' := [(0, .ref am), (1, .int x1), (2, .int x2), (3, .int x3), (4, .int x4)]) (st' := [.int x4, .int x3, .long (x2 : Int32).toInt64, .int v4, .ref am]) [.iload_n 2, .i2l, .iload_n 3, .iload 4] (by decide +kernel) rfl ?_
      obtain ⟨v5, hv5, h⟩ := zbind h
      refine m_cR (idx := 341) (rest := []) hW (cmnumberOf s0 D cB cI cJ cD am a1 a2 a3 (upd F 0 0) G tp w oc n v4 (x2 : Int32).toInt64 x3 x4 v5 hv5) oX12_numberOf rfl (zT_mem 1872 (by decide +kernel) rfl) (zT_mem 1874 (by decide +kernel) rfl) (zT_mem 71 (by decide +kernel) rfl) rfl rfl (Nat.le_of_ble_eq_true rfl) ⟨by decide, by decide⟩ (by decide +kernel) ?_
      refine zV_eq (st2 := [.long v5]) rfl rfl rfl rfl ?_
      refine zV_goto (tgt := 48) (off := 6) (by decide +kernel) (by decide) ?_
      obtain rfl := Option.some.inj h
      exact zV_lret rfl (by decide +kernel) (hQ _ rfl hm hW hFr)

def mlater_94 (n : Nat) (F : Nat → Int32) (w : Nat → Int32) (t1 : Int32) (t2 : Int64) (t3 : Int32) (t4 : Int32) : Option (Int64 × (Nat → Int32)) := (mnumberOf n w t1 t2 t3 t4).bind (fun v1 => some (v1, F))
set_option maxHeartbeats 4000000 in
set_option maxRecDepth 100000 in
theorem cmlater_94 (s0 : State) (D : va_G) (cB cI cJ cD : ClassId) (am a1 a2 a3 : Nat) (F : Nat → Int32) (G : Nat → Int64) (tp w oc : Nat → Int32) (n : Nat) (t1 : Int32) (t2 : Int64) (t3 : Int32) (t4 : Int32) {hi hm : zHp} {nx : Nat} {Q : Option Value → zHp → zHp → Nat → Prop} {hm0 : zHp} {x : Int64 × (Nat → Int32)} (hW : mW cB cI am a1 a2 a3 F G tp w oc hm) (hFr : mFr am a1 a2 a3 hm0 hm) (h : mlater_94 n F w t1 t2 t3 t4 = some x) (hQ : ∀ r : Int64 × (Nat → Int32), x = r → ∀ hm', mW cB cI am a1 a2 a3 r.2 G tp w oc hm' → mFr am a1 a2 a3 hm0 hm' → Q (some (.long r.1)) hi hm' nx) : zV s0 D (zty cB cI cJ cD) yX12_later cX12_later 10 (some .long) 5 124 0 0 94 [] [.int t4, .int t3, .long t2, .int t1, .ref am] hi hm nx Q := by
  unfold mlater_94 at h
  obtain ⟨v1, hv1, h⟩ := zbind h
  refine m_cR (idx := 341) (rest := []) hW (cmnumberOf s0 D cB cI cJ cD am a1 a2 a3 F G tp w oc n t1 t2 t3 t4 v1 hv1) oX12_numberOf rfl (zT_mem 1872 (by decide +kernel) rfl) (zT_mem 1874 (by decide +kernel) rfl) (zT_mem 71 (by decide +kernel) rfl) rfl rfl (Nat.le_of_ble_eq_true rfl) ⟨by decide, by decide⟩ (by decide +kernel) ?_
  refine zV_eq (st2 := [.long v1]) rfl rfl rfl rfl ?_
  obtain rfl := Option.some.inj h
  exact zV_lret rfl (by decide +kernel) (hQ _ rfl hm hW hFr)
def mlater (n : Nat) (F : Nat → Int32) (w : Nat → Int32) (x1 : Int32) (x2 : Int32) (x3 : Int32) (x4 : Int32) (x5 : Int32) : Option (Int64 × (Nat → Int32)) := (misThere w x1).bind (fun v1 => (if v1 = true then (mbank x1).bind (fun v2 => (misDate n w v2 (x2 : Int32).toInt64 x3 x4).bind (fun v3 => (if v3 = true then (misYear ((x2 : Int32).toInt64 + (x5 : Int32).toInt64)).bind (fun v4 => (if v4 = true then (mbank x1).bind (fun v5 => (misLeap n w v5 ((x2 : Int32).toInt64 + (x5 : Int32).toInt64)).bind (fun v6 => (mmonthDays w v5 x3 (zb v6)).bind (fun v7 => (if ((v7 - 1) : Int32) ≤ (x4 : Int32) then (mlater_94 n (upd F 0 0) w v5 ((x2 : Int32).toInt64 + (x5 : Int32).toInt64) x3 (v7 - 1)) else (mlater_94 n (upd F 0 0) w v5 ((x2 : Int32).toInt64 + (x5 : Int32).toInt64) x3 x4))))) else some ((-1000000000000000), (upd F 0 0)))) else some ((-1000000000000000), (upd F 0 0))))) else some ((-1000000000000000), (upd F 0 0))))
theorem oX12_later : zO yX12_later cX12_later 10 (some .long) 5 := ⟨zT_mem 1883 (by decide +kernel) rfl, zT_mem 94 (by decide +kernel) rfl, by decide +kernel, by decide +kernel, by decide +kernel⟩
set_option maxHeartbeats 4000000 in
set_option maxRecDepth 100000 in
theorem cmlater (s0 : State) (D : va_G) (cB cI cJ cD : ClassId) (am a1 a2 a3 : Nat) (F : Nat → Int32) (G : Nat → Int64) (tp w oc : Nat → Int32) (n : Nat) (x1 : Int32) (x2 : Int32) (x3 : Int32) (x4 : Int32) (x5 : Int32) (x : Int64 × (Nat → Int32)) (h : mlater n F w x1 x2 x3 x4 x5 = some x) : mC s0 D cB cI cJ cD am a1 a2 a3 yX12_later cX12_later 10 (some .long) 5 124 [.int x1, .int x2, .int x3, .int x4, .int x5] F G tp w oc (some (.long x.1)) x.2 G tp w oc := by
  intro hi hm nx Q hW hQ0
  have hQ : ∀ r : Int64 × (Nat → Int32), x = r → ∀ hm', mW cB cI am a1 a2 a3 r.2 G tp w oc hm' → mFr am a1 a2 a3 hm hm' → Q (some (.long r.1)) hi hm' nx := fun r hr => by subst hr; exact hQ0
  have hFr : mFr am a1 a2 a3 hm hm := mFr.rf
  clear hQ0
  refine zM_of (by decide +kernel) (Nat.le_of_ble_eq_true rfl) ?_
  unfold mlater at h
  refine zV_eq (lo2 := [(0, .ref am), (1, .int x1), (2, .int x2), (3, .int x3), (4, .int x4), (5, .int x5)]) rfl rfl rfl rfl ?_
  refine zV_blk (pc' := 2) (lo' := [(0, .ref am), (1, .int x1), (2, .int x2), (3, .int x3), (4, .int x4), (5, .int x5)]) (st' := [.int 0, .ref am]) [.aload_n 0, .iconst 0] (by decide +kernel) rfl ?_
  refine m_put (idx := 25) (k := 0) (v := .int 0) (F' := (upd F 0 0)) (G' := G) hW m_in12 (by decide) (zT_mem 1440 (by decide +kernel) rfl) rfl rfl rfl rfl (by decide +kernel) (fun hm hW hFr2 => ?_)
  replace hFr := hFr.tr hFr2; clear hFr2
  refine zV_blk (pc' := 15) (lo' := [(6, .long ((x2 : Int32).toInt64 + (x5 : Int32).toInt64)), (0, .ref am), (1, .int x1), (2, .int x2), (3, .int x3), (4, .int x4), (5, .int x5)]) (st' := [.int x1, .ref am]) [.iload_n 2, .i2l, .iload 5, .i2l, .ladd, .lstore 6, .aload_n 0, .iload_n 1] (by decide +kernel) rfl ?_
  obtain ⟨v1, hv1, h⟩ := zbind h
  refine m_cR (idx := 273) (rest := []) hW (cmisThere s0 D cB cI cJ cD am a1 a2 a3 (upd F 0 0) G tp w oc x1 v1 hv1) oX12_isThere rfl (zT_mem 1686 (by decide +kernel) rfl) (zT_mem 1688 (by decide +kernel) rfl) (zT_mem 49 (by decide +kernel) rfl) rfl rfl (Nat.le_of_ble_eq_true rfl) ⟨by decide, by decide⟩ (by decide +kernel) ?_
  refine zV_eq (st2 := [.int (zb v1)]) rfl rfl rfl rfl ?_
  refine zV_bif_eq (tgt := 45) (off := 27) (by decide +kernel) (by decide) (fun q => ?_) (fun q => ?_)
  · replace h := zif_neg q h
    clear q
    refine zV_ldc2 (idx := 40) (v := (-1000000000000000)) (zT_mem 1728 (by decide +kernel) rfl) (by decide +kernel) ?_
    obtain rfl := Option.some.inj h
    exact zV_lret rfl (by decide +kernel) (hQ _ rfl hm hW hFr)
  · replace h := zif_pos q h
    clear q
    refine zV_blk (pc' := 23) (lo' := [(6, .long ((x2 : Int32).toInt64 + (x5 : Int32).toInt64)), (0, .ref am), (1, .int x1), (2, .int x2), (3, .int x3), (4, .int x4), (5, .int x5)]) (st' := [.int x1, .ref am]) [.aload_n 0, .iload_n 1] (by decide +kernel) rfl ?_
    obtain ⟨v2, hv2, h⟩ := zbind h
    refine zV_sC (idx := 118) (rest := [.ref am]) (cmbank s0 D cB cI cJ cD x1 v2 hv2) oX12_bank (zT_mem 1671 (by decide +kernel) rfl) (zT_mem 1672 (by decide +kernel) rfl) rfl rfl (Nat.le_of_ble_eq_true rfl) ⟨by decide, by decide⟩ (by decide +kernel) ?_
    refine zV_eq (st2 := [.int v2, .ref am]) rfl rfl rfl rfl ?_
    refine zV_blk (pc' := 31) (lo' := [(6, .long ((x2 : Int32).toInt64 + (x5 : Int32).toInt64)), (0, .ref am), (1, .int x1), (2, .int x2), (3, .int x3), (4, .int x4), (5, .int x5)]) (st' := [.int x4, .int x3, .long (x2 : Int32).toInt64, .int v2, .ref am]) [.iload_n 2, .i2l, .iload_n 3, .iload 4] (by decide +kernel) rfl ?_
    obtain ⟨v3, hv3, h⟩ := zbind h
    refine m_cR (idx := 337) (rest := []) hW (cmisDate s0 D cB cI cJ cD am a1 a2 a3 (upd F 0 0) G tp w oc n v2 (x2 : Int32).toInt64 x3 x4 v3 hv3) oX12_isDate rfl (zT_mem 1868 (by decide +kernel) rfl) (zT_mem 1870 (by decide +kernel) rfl) (zT_mem 70 (by decide +kernel) rfl) rfl rfl (Nat.le_of_ble_eq_true rfl) ⟨by decide, by decide⟩ (by decide +kernel) ?_
    refine zV_eq (st2 := [.int (zb v3)]) rfl rfl rfl rfl ?_
    refine zV_bif_eq (tgt := 45) (off := 11) (by decide +kernel) (by decide) (fun q => ?_) (fun q => ?_)
    · replace h := zif_neg q h
      clear q
      refine zV_ldc2 (idx := 40) (v := (-1000000000000000)) (zT_mem 1728 (by decide +kernel) rfl) (by decide +kernel) ?_
      obtain rfl := Option.some.inj h
      exact zV_lret rfl (by decide +kernel) (hQ _ rfl hm hW hFr)
    · replace h := zif_pos q h
      clear q
      refine zV_blk (pc' := 39) (lo' := [(6, .long ((x2 : Int32).toInt64 + (x5 : Int32).toInt64)), (0, .ref am), (1, .int x1), (2, .int x2), (3, .int x3), (4, .int x4), (5, .int x5)]) (st' := [.long ((x2 : Int32).toInt64 + (x5 : Int32).toInt64)]) [.lload 6] (by decide +kernel) rfl ?_
      obtain ⟨v4, hv4, h⟩ := zbind h
      refine zV_sC (idx := 255) (rest := []) (cmisYear s0 D cB cI cJ cD ((x2 : Int32).toInt64 + (x5 : Int32).toInt64) v4 hv4) oX12_isYear (zT_mem 1817 (by decide +kernel) rfl) (zT_mem 1818 (by decide +kernel) rfl) rfl rfl (Nat.le_of_ble_eq_true rfl) ⟨by decide, by decide⟩ (by decide +kernel) ?_
      refine zV_eq (st2 := [.int (zb v4)]) rfl rfl rfl rfl ?_
      refine zV_bif_ne (tgt := 49) (off := 7) (by decide +kernel) (by decide) (fun q => ?_) (fun q => ?_)
      · replace h := zif_pos q h
        clear q
        refine zV_blk (pc' := 50) (lo' := [(6, .long ((x2 : Int32).toInt64 + (x5 : Int32).toInt64)), (0, .ref am), (1, .int x1), (2, .int x2), (3, .int x3), (4, .int x4), (5, .int x5)]) (st' := [.int x1]) [.iload_n 1] (by decide +kernel) rfl ?_
        obtain ⟨v5, hv5, h⟩ := zbind h
        refine zV_sC (idx := 118) (rest := []) (cmbank s0 D cB cI cJ cD x1 v5 hv5) oX12_bank (zT_mem 1671 (by decide +kernel) rfl) (zT_mem 1672 (by decide +kernel) rfl) rfl rfl (Nat.le_of_ble_eq_true rfl) ⟨by decide, by decide⟩ (by decide +kernel) ?_
        refine zV_eq (st2 := [.int v5]) rfl rfl rfl rfl ?_
        refine zV_blk (pc' := 64) (lo' := [(8, .int v5), (6, .long ((x2 : Int32).toInt64 + (x5 : Int32).toInt64)), (0, .ref am), (1, .int x1), (2, .int x2), (3, .int x3), (4, .int x4), (5, .int x5)]) (st' := [.long ((x2 : Int32).toInt64 + (x5 : Int32).toInt64), .int v5, .ref am, .int x3, .int v5, .ref am]) [.istore 8, .aload_n 0, .iload 8, .iload_n 3, .aload_n 0, .iload 8, .lload 6] (by decide +kernel) rfl ?_
        obtain ⟨v6, hv6, h⟩ := zbind h
        refine m_cR (idx := 236) (rest := [.int x3, .int v5, .ref am]) hW (cmisLeap s0 D cB cI cJ cD am a1 a2 a3 (upd F 0 0) G tp w oc n v5 ((x2 : Int32).toInt64 + (x5 : Int32).toInt64) v6 hv6) oX12_isLeap rfl (zT_mem 1805 (by decide +kernel) rfl) (zT_mem 1807 (by decide +kernel) rfl) (zT_mem 64 (by decide +kernel) rfl) rfl rfl (Nat.le_of_ble_eq_true rfl) ⟨by decide, by decide⟩ (by decide +kernel) ?_
        refine zV_eq (st2 := [.int (zb v6), .int x3, .int v5, .ref am]) rfl rfl rfl rfl ?_
        obtain ⟨v7, hv7, h⟩ := zbind h
        refine m_cR (idx := 251) (rest := []) hW (cmmonthDays s0 D cB cI cJ cD am a1 a2 a3 (upd F 0 0) G tp w oc v5 x3 (zb v6) v7 hv7) oX12_monthDays rfl (zT_mem 1720 (by decide +kernel) rfl) (zT_mem 1722 (by decide +kernel) rfl) (zT_mem 54 (by decide +kernel) rfl) rfl rfl (Nat.le_of_ble_eq_true rfl) ⟨by decide, by decide⟩ (by decide +kernel) ?_
        refine zV_eq (st2 := [.int v7]) rfl rfl rfl rfl ?_
        refine zV_blk (pc' := 84) (lo' := [(9, .int (v7 - 1)), (8, .int v5), (6, .long ((x2 : Int32).toInt64 + (x5 : Int32).toInt64)), (0, .ref am), (1, .int x1), (2, .int x2), (3, .int x3), (4, .int x4), (5, .int x5)]) (st' := [.int (v7 - 1), .int x4, .int x3, .long ((x2 : Int32).toInt64 + (x5 : Int32).toInt64), .int v5, .ref am]) [.iconst 1, .isub, .istore 9, .aload_n 0, .iload 8, .lload 6, .iload_n 3, .iload 4, .iload 9] (by decide +kernel) rfl ?_
        refine zV_icmp_ge (tgt := 92) (off := 8) (by decide +kernel) (by decide) (fun q => ?_) (fun q => ?_)
        · replace h := zif_pos q h
          clear q
          refine zV_blk (pc' := 94) (lo' := [(9, .int (v7 - 1)), (8, .int v5), (6, .long ((x2 : Int32).toInt64 + (x5 : Int32).toInt64)), (0, .ref am), (1, .int x1), (2, .int x2), (3, .int x3), (4, .int x4), (5, .int x5)]) (st' := [.int (v7 - 1), .int x3, .long ((x2 : Int32).toInt64 + (x5 : Int32).toInt64), .int v5, .ref am]) [.iload 9] (by decide +kernel) rfl ?_
          refine zV_pick (lo2 := []) [] rfl ?_
          exact cmlater_94 s0 D cB cI cJ cD am a1 a2 a3 (upd F 0 0) G tp w oc n v5 ((x2 : Int32).toInt64 + (x5 : Int32).toInt64) x3 (v7 - 1) hW hFr h hQ
        · replace h := zif_neg q h
          clear q
          refine zV_blk (pc' := 89) (lo' := [(9, .int (v7 - 1)), (8, .int v5), (6, .long ((x2 : Int32).toInt64 + (x5 : Int32).toInt64)), (0, .ref am), (1, .int x1), (2, .int x2), (3, .int x3), (4, .int x4), (5, .int x5)]) (st' := [.int x4, .int x3, .long ((x2 : Int32).toInt64 + (x5 : Int32).toInt64), .int v5, .ref am]) [.iload 4] (by decide +kernel) rfl ?_
          refine zV_goto (tgt := 94) (off := 5) (by decide +kernel) (by decide) ?_
          refine zV_pick (lo2 := []) [] rfl ?_
          exact cmlater_94 s0 D cB cI cJ cD am a1 a2 a3 (upd F 0 0) G tp w oc n v5 ((x2 : Int32).toInt64 + (x5 : Int32).toInt64) x3 x4 hW hFr h hQ
      · replace h := zif_neg q h
        clear q
        refine zV_ldc2 (idx := 40) (v := (-1000000000000000)) (zT_mem 1728 (by decide +kernel) rfl) (by decide +kernel) ?_
        obtain rfl := Option.some.inj h
        exact zV_lret rfl (by decide +kernel) (hQ _ rfl hm hW hFr)

