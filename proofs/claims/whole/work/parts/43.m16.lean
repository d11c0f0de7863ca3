def mpasses_53 (n : Nat) (F : Nat → Int32) (w : Nat → Int32) (x3 : Int32) (x4 : Int64) (x6 : Int64) (s : Int32) : Option ((Int32) ⊕ (Int32 × (Nat → Int32))) := (if (20000 : Int32) < (s : Int32) then some (.inr ((-1), F)) else (mdriftOf n w x3 (s : Int32).toInt64).bind (fun v1 => (msize (v1 - x4)).bind (fun v2 => (if (v2 : Int64) ≤ (x6 : Int64) then some (.inl (s + 1)) else some (.inr (s, F))))))
set_option maxHeartbeats 4000000 in
set_option maxRecDepth 100000 in
theorem cmpasses_53 (s0 : State) (D : va_G) (cB cI cJ cD : ClassId) (am a1 a2 a3 : Nat) (F : Nat → Int32) (G : Nat → Int64) (tp : Nat → Int32) (w : Nat → Int32) (oc : Nat → Int32) (n : Nat) (x3 : Int32) (x4 : Int64) (x6 : Int64) (s : Int32) (x : (Int32) ⊕ (Int32 × (Nat → Int32))) {hi hm : zHp} {nx : Nat} {Q : Option Value → zHp → zHp → Nat → Prop} {hm0 : zHp} (hW : mW cB cI am a1 a2 a3 F G tp w oc hm) (hFr : mFr am a1 a2 a3 hm0 hm) (h : mpasses_53 n F w x3 x4 x6 s = some x) (hL53 : ∀ s : Int32, x = (.inl s) → ∀ hm', mW cB cI am a1 a2 a3 F G tp w oc hm' → mFr am a1 a2 a3 hm0 hm' → zV s0 D (zty cB cI cJ cD) yX12_passes cX12_passes 9 (some .int) 5 120 0 0 53 [(0, .ref am), (3, .int x3), (4, .long x4), (6, .long x6), (8, .int s)] [] hi hm' nx Q) (hQ : ∀ r : Int32 × (Nat → Int32), x = (.inr r) → ∀ hm', mW cB cI am a1 a2 a3 r.2 G tp w oc hm' → mFr am a1 a2 a3 hm0 hm' → Q (some (.int r.1)) hi hm' nx) : zV s0 D (zty cB cI cJ cD) yX12_passes cX12_passes 9 (some .int) 5 120 0 0 53 [(0, .ref am), (3, .int x3), (4, .long x4), (6, .long x6), (8, .int s)] [] hi hm nx Q := by
  unfold mpasses_53 at h
  refine zV_blk (pc' := 58) (lo' := [(0, .ref am), (3, .int x3), (4, .long x4), (6, .long x6), (8, .int s)]) (st' := [.int 20000, .int s]) [.iload 8, .sipush 20000] (by decide +kernel) rfl ?_
  refine zV_icmp_gt (tgt := 90) (off := 32) (by decide +kernel) (by decide) (fun q => ?_) (fun q => ?_)
  · replace h := zif_pos q h
    clear q
    refine zV_blk (pc' := 91) (lo' := [(0, .ref am), (3, .int x3), (4, .long x4), (6, .long x6), (8, .int s)]) (st' := [.int (-1)]) [.iconst (-1)] (by decide +kernel) rfl ?_
    obtain rfl := Option.some.inj h
    exact zV_iret rfl (by decide +kernel) (hQ _ rfl hm hW hFr)
  · replace h := zif_neg q h
    clear q
    refine zV_blk (pc' := 66) (lo' := [(0, .ref am), (3, .int x3), (4, .long x4), (6, .long x6), (8, .int s)]) (st' := [.long (s : Int32).toInt64, .int x3, .ref am]) [.aload_n 0, .iload_n 3, .iload 8, .i2l] (by decide +kernel) rfl ?_
    obtain ⟨v1, hv1, h⟩ := zbind h
    refine m_cR (idx := 353) (rest := []) hW (cmdriftOf s0 D cB cI cJ cD am a1 a2 a3 F G tp w oc n x3 (s : Int32).toInt64 v1 hv1) oX12_driftOf rfl (zT_mem 1893 (by decide +kernel) rfl) (zT_mem 1895 (by decide +kernel) rfl) (zT_mem 73 (by decide +kernel) rfl) rfl rfl (Nat.le_of_ble_eq_true rfl) ⟨by decide, by decide⟩ (by decide +kernel) ?_
    refine zV_eq (st2 := [.long v1]) rfl rfl rfl rfl ?_
    refine zV_blk (pc' := 72) (lo' := [(0, .ref am), (3, .int x3), (4, .long x4), (6, .long x6), (8, .int s)]) (st' := [.long (v1 - x4)]) [.lload 4, .lsub] (by decide +kernel) rfl ?_
    obtain ⟨v2, hv2, h⟩ := zbind h
    refine zV_sC (idx := 32) (rest := []) (cmsize s0 D cB cI cJ cD (v1 - x4) v2 hv2) oX12_size (zT_mem 1739 (by decide +kernel) rfl) (zT_mem 1740 (by decide +kernel) rfl) rfl rfl (Nat.le_of_ble_eq_true rfl) ⟨by decide, by decide⟩ (by decide +kernel) ?_
    refine zV_eq (st2 := [.long v2]) rfl rfl rfl rfl ?_
    refine zV_blk (pc' := 78) (lo' := [(0, .ref am), (3, .int x3), (4, .long x4), (6, .long x6), (8, .int s)]) (st' := [.int (lg_cmp v2 x6)]) [.lload 6, .lcmp] (by decide +kernel) rfl ?_
    refine zV_lcmp_le (tgt := 84) (off := 6) (by decide +kernel) (by decide) (fun q => ?_) (fun q => ?_)
    · replace h := zif_pos q h
      clear q
      refine zV_blk (pc' := 87) (lo' := [(8, .int (s + 1)), (0, .ref am), (3, .int x3), (4, .long x4), (6, .long x6)]) (st' := []) [.iinc 8 1] (by decide +kernel) rfl ?_
      refine zV_goto (tgt := 53) (off := -34) (by decide +kernel) (by decide) ?_
      obtain rfl := Option.some.inj h
      refine zV_pick (lo2 := [(0, .ref am), (3, .int x3), (4, .long x4), (6, .long x6), (8, .int (s + 1))]) [1, 2, 3, 4, 0] rfl ?_
      exact hL53 _ rfl hm hW hFr
    · replace h := zif_neg q h
      clear q
      refine zV_blk (pc' := 83) (lo' := [(0, .ref am), (3, .int x3), (4, .long x4), (6, .long x6), (8, .int s)]) (st' := [.int s]) [.iload 8] (by decide +kernel) rfl ?_
      obtain rfl := Option.some.inj h
      exact zV_iret rfl (by decide +kernel) (hQ _ rfl hm hW hFr)
theorem cmpasses_53L (s0 : State) (D : va_G) (cB cI cJ cD : ClassId) (am a1 a2 a3 : Nat) (F : Nat → Int32) (G : Nat → Int64) (tp : Nat → Int32) (w : Nat → Int32) (oc : Nat → Int32) (n : Nat) (x3 : Int32) (x4 : Int64) (x6 : Int64) : ∀ (k : Nat) (s : Int32) {hi hm : zHp} {nx : Nat} {Q : Option Value → zHp → zHp → Nat → Prop} {hm0 : zHp} (_ : mW cB cI am a1 a2 a3 F G tp w oc hm) (_ : mFr am a1 a2 a3 hm0 hm) {x : Int32 × (Nat → Int32)} (_ : zloop (mpasses_53 n F w x3 x4 x6) k s = some x) (hQ : ∀ r : Int32 × (Nat → Int32), x = r → ∀ hm', mW cB cI am a1 a2 a3 r.2 G tp w oc hm' → mFr am a1 a2 a3 hm0 hm' → Q (some (.int r.1)) hi hm' nx), zV s0 D (zty cB cI cJ cD) yX12_passes cX12_passes 9 (some .int) 5 120 0 0 53 [(0, .ref am), (3, .int x3), (4, .long x4), (6, .long x6), (8, .int s)] [] hi hm nx Q
  | 0, s, _, _, _, _, _, hW, hFr, _, h, _ => by cases h
  | k + 1, s, hi, hm, nx, Q, hm0, hW, hFr, x, h, hQ => by
    obtain ⟨z, hz, h1, h2⟩ := zloop_succ h
    exact cmpasses_53 s0 D cB cI cJ cD am a1 a2 a3 F G tp w oc n x3 x4 x6 s z hW hFr hz (fun s' hs hm' hW' hFr' => cmpasses_53L s0 D cB cI cJ cD am a1 a2 a3 F G tp w oc n x3 x4 x6 k s' hW' hFr' (h1 s' hs) hQ) (fun r hr hm' hW' hFr' => hQ r (h2 _ hr).symm hm' hW' hFr')
def mpasses (n : Nat) (F : Nat → Int32) (w : Nat → Int32) (x1 : Int32) (x2 : Int32) : Option (Int32 × (Nat → Int32)) := (misThere w x1).bind (fun v1 => (if v1 = true then (misIn (x2 : Int32).toInt64 1 9999).bind (fun v2 => (if v2 = true then (mbank x1).bind (fun v3 => (mdriftOf n w v3 0).bind (fun v4 => (mbelowOf n w v3).bind (fun v5 => (zloop (mpasses_53 n (upd F 0 0) w v3 v4 ((x2 : Int32).toInt64 * v5)) n 0)))) else some ((-1), (upd F 0 0)))) else some ((-1), (upd F 0 0))))
theorem oX12_passes : zO yX12_passes cX12_passes 9 (some .int) 2 := ⟨zT_mem 1916 (by decide +kernel) rfl, zT_mem 94 (by decide +kernel) rfl, by decide +kernel, by decide +kernel, by decide +kernel⟩
set_option maxHeartbeats 4000000 in
set_option maxRecDepth 100000 in
theorem cmpasses (s0 : State) (D : va_G) (cB cI cJ cD : ClassId) (am a1 a2 a3 : Nat) (F : Nat → Int32) (G : Nat → Int64) (tp w oc : Nat → Int32) (n : Nat) (x1 : Int32) (x2 : Int32) (x : Int32 × (Nat → Int32)) (h : mpasses n F w x1 x2 = some x) : mC s0 D cB cI cJ cD am a1 a2 a3 yX12_passes cX12_passes 9 (some .int) 5 120 [.int x1, .int x2] F G tp w oc (some (.int x.1)) x.2 G tp w oc := by
  intro hi hm nx Q hW hQ0
  have hQ : ∀ r : Int32 × (Nat → Int32), x = r → ∀ hm', mW cB cI am a1 a2 a3 r.2 G tp w oc hm' → mFr am a1 a2 a3 hm hm' → Q (some (.int r.1)) hi hm' nx := fun r hr => by subst hr; exact hQ0
  have hFr : mFr am a1 a2 a3 hm hm := mFr.rf
  clear hQ0
  refine zM_of (by decide +kernel) (Nat.le_of_ble_eq_true rfl) ?_
  unfold mpasses at h
  refine zV_eq (lo2 := [(0, .ref am), (1, .int x1), (2, .int x2)]) rfl rfl rfl rfl ?_
  refine zV_blk (pc' := 2) (lo' := [(0, .ref am), (1, .int x1), (2, .int x2)]) (st' := [.int 0, .ref am]) [.aload_n 0, .iconst 0] (by decide +kernel) rfl ?_
  refine m_put (idx := 25) (k := 0) (v := .int 0) (F' := (upd F 0 0)) (G' := G) hW m_in12 (by decide) (zT_mem 1440 (by decide +kernel) rfl) rfl rfl rfl rfl (by decide +kernel) (fun hm hW hFr2 => ?_)
  replace hFr := hFr.tr hFr2; clear hFr2
  refine zV_blk (pc' := 7) (lo' := [(0, .ref am), (1, .int x1), (2, .int x2)]) (st' := [.int x1, .ref am]) [.aload_n 0, .iload_n 1] (by decide +kernel) rfl ?_
  obtain ⟨v1, hv1, h⟩ := zbind h
  refine m_cR (idx := 273) (rest := []) hW (cmisThere s0 D cB cI cJ cD am a1 a2 a3 (upd F 0 0) G tp w oc x1 v1 hv1) oX12_isThere rfl (zT_mem 1686 (by decide +kernel) rfl) (zT_mem 1688 (by decide +kernel) rfl) (zT_mem 49 (by decide +kernel) rfl) rfl rfl (Nat.le_of_ble_eq_true rfl) ⟨by decide, by decide⟩ (by decide +kernel) ?_
  refine zV_eq (st2 := [.int (zb v1)]) rfl rfl rfl rfl ?_
  refine zV_bif_eq (tgt := 25) (off := 15) (by decide +kernel) (by decide) (fun q => ?_) (fun q => ?_)
  · replace h := zif_neg q h
    clear q
    refine zV_blk (pc' := 26) (lo' := [(0, .ref am), (1, .int x1), (2, .int x2)]) (st' := [.int (-1)]) [.iconst (-1)] (by decide +kernel) rfl ?_
    obtain rfl := Option.some.inj h
    exact zV_iret rfl (by decide +kernel) (hQ _ rfl hm hW hFr)
  · replace h := zif_pos q h
    clear q
    refine zV_blk (pc' := 16) (lo' := [(0, .ref am), (1, .int x1), (2, .int x2)]) (st' := [.long 1, .long (x2 : Int32).toInt64]) [.iload_n 2, .i2l, .lconst 1] (by decide +kernel) rfl ?_
    refine zV_ldc2 (idx := 361) (v := 9999) (zT_mem 1917 (by decide +kernel) rfl) (by decide +kernel) ?_
    obtain ⟨v2, hv2, h⟩ := zbind h
    refine zV_sC (idx := 36) (rest := []) (cmisIn s0 D cB cI cJ cD (x2 : Int32).toInt64 1 9999 v2 hv2) oX12_isIn (zT_mem 1531 (by decide +kernel) rfl) (zT_mem 1532 (by decide +kernel) rfl) rfl rfl (Nat.le_of_ble_eq_true rfl) ⟨by decide, by decide⟩ (by decide +kernel) ?_
    refine zV_eq (st2 := [.int (zb v2)]) rfl rfl rfl rfl ?_
    refine zV_bif_ne (tgt := 27) (off := 5) (by decide +kernel) (by decide) (fun q => ?_) (fun q => ?_)
    · replace h := zif_pos q h
      clear q
      refine zV_blk (pc' := 28) (lo' := [(0, .ref am), (1, .int x1), (2, .int x2)]) (st' := [.int x1]) [.iload_n 1] (by decide +kernel) rfl ?_
      obtain ⟨v3, hv3, h⟩ := zbind h
      refine zV_sC (idx := 118) (rest := []) (cmbank s0 D cB cI cJ cD x1 v3 hv3) oX12_bank (zT_mem 1671 (by decide +kernel) rfl) (zT_mem 1672 (by decide +kernel) rfl) rfl rfl (Nat.le_of_ble_eq_true rfl) ⟨by decide, by decide⟩ (by decide +kernel) ?_
      refine zV_eq (st2 := [.int v3]) rfl rfl rfl rfl ?_
      refine zV_blk (pc' := 35) (lo' := [(3, .int v3), (0, .ref am), (1, .int x1), (2, .int x2)]) (st' := [.long 0, .int v3, .ref am]) [.istore_n 3, .aload_n 0, .iload_n 3, .lconst 0] (by decide +kernel) rfl ?_
      obtain ⟨v4, hv4, h⟩ := zbind h
      refine m_cR (idx := 353) (rest := []) hW (cmdriftOf s0 D cB cI cJ cD am a1 a2 a3 (upd F 0 0) G tp w oc n v3 0 v4 hv4) oX12_driftOf rfl (zT_mem 1893 (by decide +kernel) rfl) (zT_mem 1895 (by decide +kernel) rfl) (zT_mem 73 (by decide +kernel) rfl) rfl rfl (Nat.le_of_ble_eq_true rfl) ⟨by decide, by decide⟩ (by decide +kernel) ?_
      refine zV_eq (st2 := [.long v4]) rfl rfl rfl rfl ?_
      refine zV_blk (pc' := 44) (lo' := [(4, .long v4), (3, .int v3), (0, .ref am), (1, .int x1), (2, .int x2)]) (st' := [.int v3, .ref am, .long (x2 : Int32).toInt64]) [.lstore 4, .iload_n 2, .i2l, .aload_n 0, .iload_n 3] (by decide +kernel) rfl ?_
      obtain ⟨v5, hv5, h⟩ := zbind h
      refine m_cR (idx := 347) (rest := [.long (x2 : Int32).toInt64]) hW (cmbelowOf s0 D cB cI cJ cD am a1 a2 a3 (upd F 0 0) G tp w oc n v3 v5 hv5) oX12_belowOf rfl (zT_mem 1897 (by decide +kernel) rfl) (zT_mem 1899 (by decide +kernel) rfl) (zT_mem 74 (by decide +kernel) rfl) rfl rfl (Nat.le_of_ble_eq_true rfl) ⟨by decide, by decide⟩ (by decide +kernel) ?_
      refine zV_eq (st2 := [.long v5, .long (x2 : Int32).toInt64]) rfl rfl rfl rfl ?_
      refine zV_blk (pc' := 53) (lo' := [(8, .int 0), (6, .long ((x2 : Int32).toInt64 * v5)), (4, .long v4), (3, .int v3), (0, .ref am), (1, .int x1), (2, .int x2)]) (st' := []) [.lmul, .lstore 6, .iconst 0, .istore 8] (by decide +kernel) rfl ?_
      refine zV_pick (lo2 := [(0, .ref am), (3, .int v3), (4, .long v4), (6, .long ((x2 : Int32).toInt64 * v5)), (8, .int 0)]) [4, 3, 2, 1, 0] rfl ?_
      exact cmpasses_53L s0 D cB cI cJ cD am a1 a2 a3 (upd F 0 0) G tp w oc n v3 v4 ((x2 : Int32).toInt64 * v5) n 0 hW hFr h hQ
    · replace h := zif_neg q h
      clear q
      refine zV_blk (pc' := 26) (lo' := [(0, .ref am), (1, .int x1), (2, .int x2)]) (st' := [.int (-1)]) [.iconst (-1)] (by decide +kernel) rfl ?_
      obtain rfl := Option.some.inj h
      exact zV_iret rfl (by decide +kernel) (hQ _ rfl hm hW hFr)

def mfarOf_45 (n : Nat) (w : Nat → Int32) (x1 : Int32) (x4 : Int32) (t0 : Int64) : Option ((Int64 × Int32) ⊕ (Int64)) := some (.inl (t0, (x4 + 1)))
set_option maxHeartbeats 4000000 in
set_option maxRecDepth 100000 in
theorem cmfarOf_45 (s0 : State) (D : va_G) (cB cI cJ cD : ClassId) (am a1 a2 a3 : Nat) (F : Nat → Int32) (G : Nat → Int64) (tp w oc : Nat → Int32) (n : Nat) (x1 : Int32) (x4 : Int32) (t0 : Int64) {hi hm : zHp} {nx : Nat} {Q : Option Value → zHp → zHp → Nat → Prop} {x : (Int64 × Int32) ⊕ (Int64)} (hW : mW cB cI am a1 a2 a3 F G tp w oc hm) (h : mfarOf_45 n w x1 x4 t0 = some x) (hL5 : ∀ s : Int64 × Int32, x = (.inl s) → zV s0 D (zty cB cI cJ cD) yX12_farOf cX12_farOf 7 (some .long) 5 120 0 0 5 [(0, .ref am), (1, .int x1), (2, .long s.1), (4, .int s.2)] [] hi hm nx Q) (hQ : ∀ r : Int64, x = (.inr r) → Q (some (.long r)) hi hm nx) : zV s0 D (zty cB cI cJ cD) yX12_farOf cX12_farOf 7 (some .long) 5 120 0 0 45 [(0, .ref am), (1, .int x1), (4, .int x4)] [.long t0] hi hm nx Q := by
  unfold mfarOf_45 at h
  refine zV_blk (pc' := 49) (lo' := [(4, .int (x4 + 1)), (2, .long t0), (0, .ref am), (1, .int x1)]) (st' := []) [.lstore_n 2, .iinc 4 1] (by decide +kernel) rfl ?_
  refine zV_goto (tgt := 5) (off := -44) (by decide +kernel) (by decide) ?_
  obtain rfl := Option.some.inj h
  refine zV_pick (lo2 := [(0, .ref am), (1, .int x1), (2, .long t0), (4, .int (x4 + 1))]) [2, 3, 1, 0] rfl ?_
  exact hL5 _ rfl
def mfarOf_5 (n : Nat) (w : Nat → Int32) (x1 : Int32) (s : Int64 × Int32) : Option ((Int64 × Int32) ⊕ (Int64)) := zck (zin ((x1 + 8)) 35802) ((if ((w ((x1 + 8) : Int32).toNatClampNeg) : Int32) ≤ (s.2 : Int32) then some (.inr s.1) else (mdriftOf n w x1 (s.2 : Int32).toInt64).bind (fun v1 => (msize v1).bind (fun v2 => (if (v2 : Int64) ≤ (s.1 : Int64) then (mfarOf_45 n w x1 s.2 s.1) else (mfarOf_45 n w x1 s.2 v2))))))
set_option maxHeartbeats 4000000 in
set_option maxRecDepth 100000 in
theorem cmfarOf_5 (s0 : State) (D : va_G) (cB cI cJ cD : ClassId) (am a1 a2 a3 : Nat) (F : Nat → Int32) (G : Nat → Int64) (tp : Nat → Int32) (w : Nat → Int32) (oc : Nat → Int32) (n : Nat) (x1 : Int32) (s : Int64 × Int32) (x : (Int64 × Int32) ⊕ (Int64)) {hi hm : zHp} {nx : Nat} {Q : Option Value → zHp → zHp → Nat → Prop} (hW : mW cB cI am a1 a2 a3 F G tp w oc hm) (h : mfarOf_5 n w x1 s = some x) (hL5 : ∀ s : Int64 × Int32, x = (.inl s) → zV s0 D (zty cB cI cJ cD) yX12_farOf cX12_farOf 7 (some .long) 5 120 0 0 5 [(0, .ref am), (1, .int x1), (2, .long s.1), (4, .int s.2)] [] hi hm nx Q) (hQ : ∀ r : Int64, x = (.inr r) → Q (some (.long r)) hi hm nx) : zV s0 D (zty cB cI cJ cD) yX12_farOf cX12_farOf 7 (some .long) 5 120 0 0 5 [(0, .ref am), (1, .int x1), (2, .long s.1), (4, .int s.2)] [] hi hm nx Q := by
  unfold mfarOf_5 at h
  refine zV_blk (pc' := 8) (lo' := [(0, .ref am), (1, .int x1), (2, .long s.1), (4, .int s.2)]) (st' := [.ref am, .int s.2]) [.iload 4, .aload_n 0] (by decide +kernel) rfl ?_
  refine m_get (idx := 18) (k := 12) (v := .ref a2) hW m_in12 (by decide) (zT_mem 1452 (by decide +kernel) rfl) rfl (by decide +kernel) ?_
  refine zV_blk (pc' := 15) (lo' := [(0, .ref am), (1, .int x1), (2, .long s.1), (4, .int s.2)]) (st' := [.int (x1 + 8), .ref a2, .int s.2]) [.iload_n 1, .bipush 8, .iadd] (by decide +kernel) rfl ?_
  obtain ⟨hz, h⟩ := zck_some h
  refine m_wld hW hz (by decide +kernel) ?_
  refine zV_icmp_ge (tgt := 52) (off := 36) (by decide +kernel) (by decide) (fun q => ?_) (fun q => ?_)
  · replace h := zif_pos q h
    clear q
    refine zV_blk (pc' := 53) (lo' := [(0, .ref am), (1, .int x1), (2, .long s.1), (4, .int s.2)]) (st' := [.long s.1]) [.lload_n 2] (by decide +kernel) rfl ?_
    obtain rfl := Option.some.inj h
    exact zV_lret rfl (by decide +kernel) (hQ _ rfl)
  · replace h := zif_neg q h
    clear q
    refine zV_blk (pc' := 24) (lo' := [(0, .ref am), (1, .int x1), (2, .long s.1), (4, .int s.2)]) (st' := [.long (s.2 : Int32).toInt64, .int x1, .ref am]) [.aload_n 0, .iload_n 1, .iload 4, .i2l] (by decide +kernel) rfl ?_
    obtain ⟨v1, hv1, h⟩ := zbind h
    refine m_cR (idx := 353) (rest := []) hW (cmdriftOf s0 D cB cI cJ cD am a1 a2 a3 F G tp w oc n x1 (s.2 : Int32).toInt64 v1 hv1) oX12_driftOf rfl (zT_mem 1893 (by decide +kernel) rfl) (zT_mem 1895 (by decide +kernel) rfl) (zT_mem 73 (by decide +kernel) rfl) rfl rfl (Nat.le_of_ble_eq_true rfl) ⟨by decide, by decide⟩ (by decide +kernel) ?_
    refine zV_eq (st2 := [.long v1]) rfl rfl rfl rfl ?_
    obtain ⟨v2, hv2, h⟩ := zbind h
    refine zV_sC (idx := 32) (rest := []) (cmsize s0 D cB cI cJ cD v1 v2 hv2) oX12_size (zT_mem 1739 (by decide +kernel) rfl) (zT_mem 1740 (by decide +kernel) rfl) rfl rfl (Nat.le_of_ble_eq_true rfl) ⟨by decide, by decide⟩ (by decide +kernel) ?_
    refine zV_eq (st2 := [.long v2]) rfl rfl rfl rfl ?_
    refine zV_blk (pc' := 36) (lo' := [(5, .long v2), (0, .ref am), (1, .int x1), (2, .long s.1), (4, .int s.2)]) (st' := [.int (lg_cmp v2 s.1)]) [.lstore 5, .lload 5, .lload_n 2, .lcmp] (by decide +kernel) rfl ?_
    refine zV_lcmp_le (tgt := 44) (off := 8) (by decide +kernel) (by decide) (fun q => ?_) (fun q => ?_)
    · replace h := zif_pos q h
      clear q
      refine zV_blk (pc' := 45) (lo' := [(5, .long v2), (0, .ref am), (1, .int x1), (2, .long s.1), (4, .int s.2)]) (st' := [.long s.1]) [.lload_n 2] (by decide +kernel) rfl ?_
      refine zV_pick (lo2 := [(0, .ref am), (1, .int x1), (4, .int s.2)]) [1, 2, 4] rfl ?_
      exact cmfarOf_45 s0 D cB cI cJ cD am a1 a2 a3 F G tp w oc n x1 s.2 s.1 hW h hL5 hQ
    · replace h := zif_neg q h
      clear q
      refine zV_blk (pc' := 41) (lo' := [(5, .long v2), (0, .ref am), (1, .int x1), (2, .long s.1), (4, .int s.2)]) (st' := [.long v2]) [.lload 5] (by decide +kernel) rfl ?_
      refine zV_goto (tgt := 45) (off := 4) (by decide +kernel) (by decide) ?_
      refine zV_pick (lo2 := [(0, .ref am), (1, .int x1), (4, .int s.2)]) [1, 2, 4] rfl ?_
      exact cmfarOf_45 s0 D cB cI cJ cD am a1 a2 a3 F G tp w oc n x1 s.2 v2 hW h hL5 hQ
theorem cmfarOf_5L (s0 : State) (D : va_G) (cB cI cJ cD : ClassId) (am a1 a2 a3 : Nat) (F : Nat → Int32) (G : Nat → Int64) (tp : Nat → Int32) (w : Nat → Int32) (oc : Nat → Int32) (n : Nat) (x1 : Int32) : ∀ (k : Nat) (s : Int64 × Int32) {hi hm : zHp} {nx : Nat} {Q : Option Value → zHp → zHp → Nat → Prop} (_ : mW cB cI am a1 a2 a3 F G tp w oc hm) {x : Int64} (_ : zloop (mfarOf_5 n w x1) k s = some x) (hQ : ∀ r : Int64, x = r → Q (some (.long r)) hi hm nx), zV s0 D (zty cB cI cJ cD) yX12_farOf cX12_farOf 7 (some .long) 5 120 0 0 5 [(0, .ref am), (1, .int x1), (2, .long s.1), (4, .int s.2)] [] hi hm nx Q
  | 0, s, _, _, _, _, hW, _, h, _ => by cases h
  | k + 1, s, hi, hm, nx, Q, hW, x, h, hQ => by
    obtain ⟨z, hz, h1, h2⟩ := zloop_succ h
    exact cmfarOf_5 s0 D cB cI cJ cD am a1 a2 a3 F G tp w oc n x1 s z hW hz (fun s' hs => cmfarOf_5L s0 D cB cI cJ cD am a1 a2 a3 F G tp w oc n x1 k s' hW (h1 s' hs) hQ) (fun r hr => hQ r (h2 _ hr).symm)
def mfarOf (n : Nat) (w : Nat → Int32) (x1 : Int32) : Option (Int64) := (zloop (mfarOf_5 n w x1) n (0, 0))
theorem oX12_farOf : zO yX12_farOf cX12_farOf 7 (some .long) 1 := ⟨zT_mem 1925 (by decide +kernel) rfl, zT_mem 94 (by decide +kernel) rfl, by decide +kernel, by decide +kernel, by decide +kernel⟩
set_option maxHeartbeats 4000000 in
set_option maxRecDepth 100000 in
theorem cmfarOf (s0 : State) (D : va_G) (cB cI cJ cD : ClassId) (am a1 a2 a3 : Nat) (F : Nat → Int32) (G : Nat → Int64) (tp w oc : Nat → Int32) (n : Nat) (x1 : Int32) (x : Int64) (h : mfarOf n w x1 = some x) : mR s0 D cB cI cJ cD am a1 a2 a3 yX12_farOf cX12_farOf 7 (some .long) 5 120 [.int x1] F G tp w oc (some (.long x)) := by
  intro hi hm nx Q hW hQ0
  have hQ : ∀ r : Int64, x = r → Q (some (.long r)) hi hm nx := fun r hr => by subst hr; exact hQ0
  refine zM_of (by decide +kernel) (Nat.le_of_ble_eq_true rfl) ?_
  unfold mfarOf at h
  refine zV_eq (lo2 := [(0, .ref am), (1, .int x1)]) rfl rfl rfl rfl ?_
  refine zV_blk (pc' := 5) (lo' := [(4, .int 0), (2, .long 0), (0, .ref am), (1, .int x1)]) (st' := []) [.lconst 0, .lstore_n 2, .iconst 0, .istore 4] (by decide +kernel) rfl ?_
  refine zV_pick (lo2 := [(0, .ref am), (1, .int x1), (2, .long 0), (4, .int 0)]) [2, 3, 1, 0] rfl ?_
  exact cmfarOf_5L s0 D cB cI cJ cD am a1 a2 a3 F G tp w oc n x1 n (0, 0) hW h hQ

def mkeeps_101 (n : Nat) (F : Nat → Int32) (w : Nat → Int32) (x2 : Int32) (x3 : Int64) (x5 : Int32) : Option ((Int32 × Int64 × Int32 × (Nat → Int32)) ⊕ (Int32 × (Nat → Int32) × (Nat → Int32))) := some (.inl (x2, x3, (x5 + 1), w))
set_option maxHeartbeats 4000000 in
set_option maxRecDepth 100000 in
theorem cmkeeps_101 (s0 : State) (D : va_G) (cB cI cJ cD : ClassId) (am a1 a2 a3 : Nat) (F : Nat → Int32) (G : Nat → Int64) (tp w oc : Nat → Int32) (n : Nat) (x2 : Int32) (x3 : Int64) (x5 : Int32) {hi hm : zHp} {nx : Nat} {Q : Option Value → zHp → zHp → Nat → Prop} {hm0 : zHp} {x : (Int32 × Int64 × Int32 × (Nat → Int32)) ⊕ (Int32 × (Nat → Int32) × (Nat → Int32))} (hW : mW cB cI am a1 a2 a3 F G tp w oc hm) (hFr : mFr am a1 a2 a3 hm0 hm) (h : mkeeps_101 n F w x2 x3 x5 = some x) (hL48 : ∀ s : Int32 × Int64 × Int32 × (Nat → Int32), x = (.inl s) → ∀ hm', mW cB cI am a1 a2 a3 F G tp s.2.2.2 oc hm' → mFr am a1 a2 a3 hm0 hm' → zV s0 D (zty cB cI cJ cD) yX12_keeps cX12_keeps 8 (some .int) 6 146 0 0 48 [(0, .ref am), (2, .int s.1), (3, .long s.2.1), (5, .int s.2.2.1)] [] hi hm' nx Q) (hQ : ∀ r : Int32 × (Nat → Int32) × (Nat → Int32), x = (.inr r) → ∀ hm', mW cB cI am a1 a2 a3 r.2.1 G tp r.2.2 oc hm' → mFr am a1 a2 a3 hm0 hm' → Q (some (.int r.1)) hi hm' nx) : zV s0 D (zty cB cI cJ cD) yX12_keeps cX12_keeps 8 (some .int) 6 146 0 0 101 [(0, .ref am), (2, .int x2), (3, .long x3), (5, .int x5)] [] hi hm nx Q := by
  unfold mkeeps_101 at h
  refine zV_blk (pc' := 104) (lo' := [(5, .int (x5 + 1)), (0, .ref am), (2, .int x2), (3, .long x3)]) (st' := []) [.iinc 5 1] (by decide +kernel) rfl ?_
  refine zV_goto (tgt := 48) (off := -56) (by decide +kernel) (by decide) ?_
  obtain rfl := Option.some.inj h
  refine zV_pick (lo2 := [(0, .ref am), (2, .int x2), (3, .long x3), (5, .int (x5 + 1))]) [1, 2, 3, 0] rfl ?_
  exact hL48 _ rfl hm hW hFr
def mkeeps_95 (n : Nat) (F : Nat → Int32) (w : Nat → Int32) (x5 : Int32) (x6 : Int64) : Option ((Int32 × Int64 × Int32 × (Nat → Int32)) ⊕ (Int32 × (Nat → Int32) × (Nat → Int32))) := (mkeeps_101 n F w x5 x6 x5)
set_option maxHeartbeats 4000000 in
set_option maxRecDepth 100000 in
theorem cmkeeps_95 (s0 : State) (D : va_G) (cB cI cJ cD : ClassId) (am a1 a2 a3 : Nat) (F : Nat → Int32) (G : Nat → Int64) (tp w oc : Nat → Int32) (n : Nat) (x5 : Int32) (x6 : Int64) {hi hm : zHp} {nx : Nat} {Q : Option Value → zHp → zHp → Nat → Prop} {hm0 : zHp} {x : (Int32 × Int64 × Int32 × (Nat → Int32)) ⊕ (Int32 × (Nat → Int32) × (Nat → Int32))} (hW : mW cB cI am a1 a2 a3 F G tp w oc hm) (hFr : mFr am a1 a2 a3 hm0 hm) (h : mkeeps_95 n F w x5 x6 = some x) (hL48 : ∀ s : Int32 × Int64 × Int32 × (Nat → Int32), x = (.inl s) → ∀ hm', mW cB cI am a1 a2 a3 F G tp s.2.2.2 oc hm' → mFr am a1 a2 a3 hm0 hm' → zV s0 D (zty cB cI cJ cD) yX12_keeps cX12_keeps 8 (some .int) 6 146 0 0 48 [(0, .ref am), (2, .int s.1), (3, .long s.2.1), (5, .int s.2.2.1)] [] hi hm' nx Q) (hQ : ∀ r : Int32 × (Nat → Int32) × (Nat → Int32), x = (.inr r) → ∀ hm', mW cB cI am a1 a2 a3 r.2.1 G tp r.2.2 oc hm' → mFr am a1 a2 a3 hm0 hm' → Q (some (.int r.1)) hi hm' nx) : zV s0 D (zty cB cI cJ cD) yX12_keeps cX12_keeps 8 (some .int) 6 146 0 0 95 [(0, .ref am), (5, .int x5), (6, .long x6)] [] hi hm nx Q := by
  unfold mkeeps_95 at h
  refine zV_blk (pc' := 101) (lo' := [(2, .int x5), (3, .long x6), (0, .ref am), (5, .int x5), (6, .long x6)]) (st' := []) [.lload 6, .lstore_n 3, .iload 5, .istore_n 2] (by decide +kernel) rfl ?_
  refine zV_pick (lo2 := [(0, .ref am), (2, .int x5), (3, .long x6), (5, .int x5)]) [2, 0, 1, 3] rfl ?_
  exact cmkeeps_101 s0 D cB cI cJ cD am a1 a2 a3 F G tp w oc n x5 x6 x5 hW hFr h hL48 hQ
def mkeeps_48 (n : Nat) (F : Nat → Int32) (s : Int32 × Int64 × Int32 × (Nat → Int32)) : Option ((Int32 × Int64 × Int32 × (Nat → Int32)) ⊕ (Int32 × (Nat → Int32) × (Nat → Int32))) := zck (zin (2662) 35802) ((if ((s.2.2.2 (2662 : Int32).toNatClampNeg) : Int32) ≤ (s.2.2.1 : Int32) then some (.inr (s.1, F, s.2.2.2)) else zck (zin (2663) 35802) ((mfarOf n (upd s.2.2.2 (2663 : Int32).toNatClampNeg s.2.2.1) 2652).bind (fun v1 => (if (s.2.2.1 : Int32) ≤ (0 : Int32) then (mkeeps_95 n F (upd s.2.2.2 (2663 : Int32).toNatClampNeg s.2.2.1) s.2.2.1 v1) else (if (v1 : Int64) < (s.2.1 : Int64) then (mkeeps_95 n F (upd s.2.2.2 (2663 : Int32).toNatClampNeg s.2.2.1) s.2.2.1 v1) else (mkeeps_101 n F (upd s.2.2.2 (2663 : Int32).toNatClampNeg s.2.2.1) s.1 s.2.1 s.2.2.1)))))))
set_option maxHeartbeats 4000000 in
set_option maxRecDepth 100000 in
theorem cmkeeps_48 (s0 : State) (D : va_G) (cB cI cJ cD : ClassId) (am a1 a2 a3 : Nat) (F : Nat → Int32) (G : Nat → Int64) (tp : Nat → Int32) (oc : Nat → Int32) (n : Nat) (s : Int32 × Int64 × Int32 × (Nat → Int32)) (x : (Int32 × Int64 × Int32 × (Nat → Int32)) ⊕ (Int32 × (Nat → Int32) × (Nat → Int32))) {hi hm : zHp} {nx : Nat} {Q : Option Value → zHp → zHp → Nat → Prop} {hm0 : zHp} (hW : mW cB cI am a1 a2 a3 F G tp s.2.2.2 oc hm) (hFr : mFr am a1 a2 a3 hm0 hm) (h : mkeeps_48 n F s = some x) (hL48 : ∀ s : Int32 × Int64 × Int32 × (Nat → Int32), x = (.inl s) → ∀ hm', mW cB cI am a1 a2 a3 F G tp s.2.2.2 oc hm' → mFr am a1 a2 a3 hm0 hm' → zV s0 D (zty cB cI cJ cD) yX12_keeps cX12_keeps 8 (some .int) 6 146 0 0 48 [(0, .ref am), (2, .int s.1), (3, .long s.2.1), (5, .int s.2.2.1)] [] hi hm' nx Q) (hQ : ∀ r : Int32 × (Nat → Int32) × (Nat → Int32), x = (.inr r) → ∀ hm', mW cB cI am a1 a2 a3 r.2.1 G tp r.2.2 oc hm' → mFr am a1 a2 a3 hm0 hm' → Q (some (.int r.1)) hi hm' nx) : zV s0 D (zty cB cI cJ cD) yX12_keeps cX12_keeps 8 (some .int) 6 146 0 0 48 [(0, .ref am), (2, .int s.1), (3, .long s.2.1), (5, .int s.2.2.1)] [] hi hm nx Q := by
  unfold mkeeps_48 at h
  refine zV_blk (pc' := 51) (lo' := [(0, .ref am), (2, .int s.1), (3, .long s.2.1), (5, .int s.2.2.1)]) (st' := [.ref am, .int s.2.2.1]) [.iload 5, .aload_n 0] (by decide +kernel) rfl ?_
  refine m_get (idx := 18) (k := 12) (v := .ref a2) hW m_in12 (by decide) (zT_mem 1452 (by decide +kernel) rfl) rfl (by decide +kernel) ?_
  refine zV_blk (pc' := 57) (lo' := [(0, .ref am), (2, .int s.1), (3, .long s.2.1), (5, .int s.2.2.1)]) (st' := [.int 2662, .ref a2, .int s.2.2.1]) [.sipush 2662] (by decide +kernel) rfl ?_
  obtain ⟨hz, h⟩ := zck_some h
  refine m_wld hW hz (by decide +kernel) ?_
  refine zV_icmp_ge (tgt := 107) (off := 49) (by decide +kernel) (by decide) (fun q => ?_) (fun q => ?_)
  · replace h := zif_pos q h
    clear q
    refine zV_blk (pc' := 108) (lo' := [(0, .ref am), (2, .int s.1), (3, .long s.2.1), (5, .int s.2.2.1)]) (st' := [.int s.1]) [.iload_n 2] (by decide +kernel) rfl ?_
    obtain rfl := Option.some.inj h
    exact zV_iret rfl (by decide +kernel) (hQ _ rfl hm hW hFr)
  · replace h := zif_neg q h
    clear q
    refine zV_blk (pc' := 62) (lo' := [(0, .ref am), (2, .int s.1), (3, .long s.2.1), (5, .int s.2.2.1)]) (st' := [.ref am]) [.aload_n 0] (by decide +kernel) rfl ?_
    refine m_get (idx := 18) (k := 12) (v := .ref a2) hW m_in12 (by decide) (zT_mem 1452 (by decide +kernel) rfl) rfl (by decide +kernel) ?_
    refine zV_blk (pc' := 70) (lo' := [(0, .ref am), (2, .int s.1), (3, .long s.2.1), (5, .int s.2.2.1)]) (st' := [.int s.2.2.1, .int 2663, .ref a2]) [.sipush 2663, .iload 5] (by decide +kernel) rfl ?_
    obtain ⟨hz, h⟩ := zck_some h
    refine m_wst hW hz (by decide +kernel) (fun hm hW hFr2 => ?_)
    replace hFr := hFr.tr hFr2; clear hFr2
    refine zV_blk (pc' := 75) (lo' := [(0, .ref am), (2, .int s.1), (3, .long s.2.1), (5, .int s.2.2.1)]) (st' := [.int 2652, .ref am]) [.aload_n 0, .sipush 2652] (by decide +kernel) rfl ?_
    obtain ⟨v1, hv1, h⟩ := zbind h
    refine m_cR (idx := 363) (rest := []) hW (cmfarOf s0 D cB cI cJ cD am a1 a2 a3 F G tp (upd s.2.2.2 (2663 : Int32).toNatClampNeg s.2.2.1) oc n 2652 v1 hv1) oX12_farOf rfl (zT_mem 1922 (by decide +kernel) rfl) (zT_mem 1924 (by decide +kernel) rfl) (zT_mem 76 (by decide +kernel) rfl) rfl rfl (Nat.le_of_ble_eq_true rfl) ⟨by decide, by decide⟩ (by decide +kernel) ?_
    refine zV_eq (st2 := [.long v1]) rfl rfl rfl rfl ?_
    refine zV_blk (pc' := 82) (lo' := [(6, .long v1), (0, .ref am), (2, .int s.1), (3, .long s.2.1), (5, .int s.2.2.1)]) (st' := [.int s.2.2.1]) [.lstore 6, .iload 5] (by decide +kernel) rfl ?_
    refine zV_if_le (tgt := 95) (off := 13) (by decide +kernel) (by decide) (fun q => ?_) (fun q => ?_)
    · replace h := zif_pos q h
      clear q
      refine zV_pick (lo2 := [(0, .ref am), (5, .int s.2.2.1), (6, .long v1)]) [1, 4, 0] rfl ?_
      exact cmkeeps_95 s0 D cB cI cJ cD am a1 a2 a3 F G tp (upd s.2.2.2 (2663 : Int32).toNatClampNeg s.2.2.1) oc n s.2.2.1 v1 hW hFr h hL48 hQ
    · replace h := zif_neg q h
      clear q
      refine zV_blk (pc' := 89) (lo' := [(6, .long v1), (0, .ref am), (2, .int s.1), (3, .long s.2.1), (5, .int s.2.2.1)]) (st' := [.int (lg_cmp v1 s.2.1)]) [.lload 6, .lload_n 3, .lcmp] (by decide +kernel) rfl ?_
      refine zV_lcmp_lt (tgt := 95) (off := 6) (by decide +kernel) (by decide) (fun q => ?_) (fun q => ?_)
      · replace h := zif_pos q h
        clear q
        refine zV_pick (lo2 := [(0, .ref am), (5, .int s.2.2.1), (6, .long v1)]) [1, 4, 0] rfl ?_
        exact cmkeeps_95 s0 D cB cI cJ cD am a1 a2 a3 F G tp (upd s.2.2.2 (2663 : Int32).toNatClampNeg s.2.2.1) oc n s.2.2.1 v1 hW hFr h hL48 hQ
      · replace h := zif_neg q h
        clear q
        refine zV_goto (tgt := 101) (off := 9) (by decide +kernel) (by decide) ?_
        refine zV_pick (lo2 := [(0, .ref am), (2, .int s.1), (3, .long s.2.1), (5, .int s.2.2.1)]) [1, 2, 3, 4] rfl ?_
        exact cmkeeps_101 s0 D cB cI cJ cD am a1 a2 a3 F G tp (upd s.2.2.2 (2663 : Int32).toNatClampNeg s.2.2.1) oc n s.1 s.2.1 s.2.2.1 hW hFr h hL48 hQ
theorem cmkeeps_48L (s0 : State) (D : va_G) (cB cI cJ cD : ClassId) (am a1 a2 a3 : Nat) (F : Nat → Int32) (G : Nat → Int64) (tp : Nat → Int32) (oc : Nat → Int32) (n : Nat) : ∀ (k : Nat) (s : Int32 × Int64 × Int32 × (Nat → Int32)) {hi hm : zHp} {nx : Nat} {Q : Option Value → zHp → zHp → Nat → Prop} {hm0 : zHp} (_ : mW cB cI am a1 a2 a3 F G tp s.2.2.2 oc hm) (_ : mFr am a1 a2 a3 hm0 hm) {x : Int32 × (Nat → Int32) × (Nat → Int32)} (_ : zloop (mkeeps_48 n F) k s = some x) (hQ : ∀ r : Int32 × (Nat → Int32) × (Nat → Int32), x = r → ∀ hm', mW cB cI am a1 a2 a3 r.2.1 G tp r.2.2 oc hm' → mFr am a1 a2 a3 hm0 hm' → Q (some (.int r.1)) hi hm' nx), zV s0 D (zty cB cI cJ cD) yX12_keeps cX12_keeps 8 (some .int) 6 146 0 0 48 [(0, .ref am), (2, .int s.1), (3, .long s.2.1), (5, .int s.2.2.1)] [] hi hm nx Q
  | 0, s, _, _, _, _, _, hW, hFr, _, h, _ => by cases h
  | k + 1, s, hi, hm, nx, Q, hm0, hW, hFr, x, h, hQ => by
    obtain ⟨z, hz, h1, h2⟩ := zloop_succ h
    exact cmkeeps_48 s0 D cB cI cJ cD am a1 a2 a3 F G tp oc n  s z hW hFr hz (fun s' hs hm' hW' hFr' => cmkeeps_48L s0 D cB cI cJ cD am a1 a2 a3 F G tp oc n  k s' hW' hFr' (h1 s' hs) hQ) (fun r hr hm' hW' hFr' => hQ r (h2 _ hr).symm hm' hW' hFr')
def mkeeps (n : Nat) (F : Nat → Int32) (w : Nat → Int32) (x1 : Int32) : Option (Int32 × (Nat → Int32) × (Nat → Int32)) := (misThere w x1).bind (fun v1 => (if v1 = true then (mbank x1).bind (fun v2 => zck (zin ((v2 + 3)) 35802) ((if ((w ((v2 + 3) : Int32).toNatClampNeg) : Int32) = (1 : Int32) then (mbank x1).bind (fun v3 => (mcopies n w 2652 v3).bind (fun v4 => (zloop (mkeeps_48 n (upd F 0 0)) n (0, 0, 0, v4)))) else some ((-1), (upd F 0 0), w)))) else some ((-1), (upd F 0 0), w)))
theorem oX12_keeps : zO yX12_keeps cX12_keeps 8 (some .int) 1 := ⟨zT_mem 1921 (by decide +kernel) rfl, zT_mem 94 (by decide +kernel) rfl, by decide +kernel, by decide +kernel, by decide +kernel⟩
set_option maxHeartbeats 4000000 in
set_option maxRecDepth 100000 in
theorem cmkeeps (s0 : State) (D : va_G) (cB cI cJ cD : ClassId) (am a1 a2 a3 : Nat) (F : Nat → Int32) (G : Nat → Int64) (tp w oc : Nat → Int32) (n : Nat) (x1 : Int32) (x : Int32 × (Nat → Int32) × (Nat → Int32)) (h : mkeeps n F w x1 = some x) : mC s0 D cB cI cJ cD am a1 a2 a3 yX12_keeps cX12_keeps 8 (some .int) 6 146 [.int x1] F G tp w oc (some (.int x.1)) x.2.1 G tp x.2.2 oc := by
  intro hi hm nx Q hW hQ0
  have hQ : ∀ r : Int32 × (Nat → Int32) × (Nat → Int32), x = r → ∀ hm', mW cB cI am a1 a2 a3 r.2.1 G tp r.2.2 oc hm' → mFr am a1 a2 a3 hm hm' → Q (some (.int r.1)) hi hm' nx := fun r hr => by subst hr; exact hQ0
  have hFr : mFr am a1 a2 a3 hm hm := mFr.rf
  clear hQ0
  refine zM_of (by decide +kernel) (Nat.le_of_ble_eq_true rfl) ?_
  unfold mkeeps at h
  refine zV_eq (lo2 := [(0, .ref am), (1, .int x1)]) rfl rfl rfl rfl ?_
  refine zV_blk (pc' := 2) (lo' := [(0, .ref am), (1, .int x1)]) (st' := [.int 0, .ref am]) [.aload_n 0, .iconst 0] (by decide +kernel) rfl ?_
  refine m_put (idx := 25) (k := 0) (v := .int 0) (F' := (upd F 0 0)) (G' := G) hW m_in12 (by decide) (zT_mem 1440 (by decide +kernel) rfl) rfl rfl rfl rfl (by decide +kernel) (fun hm hW hFr2 => ?_)
  replace hFr := hFr.tr hFr2; clear hFr2
  refine zV_blk (pc' := 7) (lo' := [(0, .ref am), (1, .int x1)]) (st' := [.int x1, .ref am]) [.aload_n 0, .iload_n 1] (by decide +kernel) rfl ?_
  obtain ⟨v1, hv1, h⟩ := zbind h
  refine m_cR (idx := 273) (rest := []) hW (cmisThere s0 D cB cI cJ cD am a1 a2 a3 (upd F 0 0) G tp w oc x1 v1 hv1) oX12_isThere rfl (zT_mem 1686 (by decide +kernel) rfl) (zT_mem 1688 (by decide +kernel) rfl) (zT_mem 49 (by decide +kernel) rfl) rfl rfl (Nat.le_of_ble_eq_true rfl) ⟨by decide, by decide⟩ (by decide +kernel) ?_
  refine zV_eq (st2 := [.int (zb v1)]) rfl rfl rfl rfl ?_
  refine zV_bif_eq (tgt := 28) (off := 18) (by decide +kernel) (by decide) (fun q => ?_) (fun q => ?_)
  · replace h := zif_neg q h
    clear q
    refine zV_blk (pc' := 29) (lo' := [(0, .ref am), (1, .int x1)]) (st' := [.int (-1)]) [.iconst (-1)] (by decide +kernel) rfl ?_
    obtain rfl := Option.some.inj h
    exact zV_iret rfl (by decide +kernel) (hQ _ rfl hm hW hFr)
  · replace h := zif_pos q h
    clear q
    refine zV_blk (pc' := 14) (lo' := [(0, .ref am), (1, .int x1)]) (st' := [.ref am]) [.aload_n 0] (by decide +kernel) rfl ?_
    refine m_get (idx := 18) (k := 12) (v := .ref a2) hW m_in12 (by decide) (zT_mem 1452 (by decide +kernel) rfl) rfl (by decide +kernel) ?_
    refine zV_blk (pc' := 18) (lo' := [(0, .ref am), (1, .int x1)]) (st' := [.int x1, .ref a2]) [.iload_n 1] (by decide +kernel) rfl ?_
    obtain ⟨v2, hv2, h⟩ := zbind h
    refine zV_sC (idx := 118) (rest := [.ref a2]) (cmbank s0 D cB cI cJ cD x1 v2 hv2) oX12_bank (zT_mem 1671 (by decide +kernel) rfl) (zT_mem 1672 (by decide +kernel) rfl) rfl rfl (Nat.le_of_ble_eq_true rfl) ⟨by decide, by decide⟩ (by decide +kernel) ?_
    refine zV_eq (st2 := [.int v2, .ref a2]) rfl rfl rfl rfl ?_
    refine zV_blk (pc' := 23) (lo' := [(0, .ref am), (1, .int x1)]) (st' := [.int (v2 + 3), .ref a2]) [.iconst 3, .iadd] (by decide +kernel) rfl ?_
    obtain ⟨hz, h⟩ := zck_some h
    refine m_wld hW hz (by decide +kernel) ?_
    refine zV_blk (pc' := 25) (lo' := [(0, .ref am), (1, .int x1)]) (st' := [.int 1, .int (w ((v2 + 3) : Int32).toNatClampNeg)]) [.iconst 1] (by decide +kernel) rfl ?_
    refine zV_icmp_eq (tgt := 30) (off := 5) (by decide +kernel) (by decide) (fun q => ?_) (fun q => ?_)
    · replace h := zif_pos q h
      clear q
      refine zV_blk (pc' := 35) (lo' := [(0, .ref am), (1, .int x1)]) (st' := [.int x1, .int 2652, .ref am]) [.aload_n 0, .sipush 2652, .iload_n 1] (by decide +kernel) rfl ?_
      obtain ⟨v3, hv3, h⟩ := zbind h
      refine zV_sC (idx := 118) (rest := [.int 2652, .ref am]) (cmbank s0 D cB cI cJ cD x1 v3 hv3) oX12_bank (zT_mem 1671 (by decide +kernel) rfl) (zT_mem 1672 (by decide +kernel) rfl) rfl rfl (Nat.le_of_ble_eq_true rfl) ⟨by decide, by decide⟩ (by decide +kernel) ?_
      refine zV_eq (st2 := [.int v3, .int 2652, .ref am]) rfl rfl rfl rfl ?_
      obtain ⟨v4, hv4, h⟩ := zbind h
      refine m_cC (idx := 226) (rest := []) hW (cmcopies s0 D cB cI cJ cD am a1 a2 a3 (upd F 0 0) G tp w oc n 2652 v3 v4 hv4) oX12_copies rfl (zT_mem 1674 (by decide +kernel) rfl) (zT_mem 1676 (by decide +kernel) rfl) (zT_mem 48 (by decide +kernel) rfl) rfl rfl (Nat.le_of_ble_eq_true rfl) ⟨by decide, by decide⟩ (by decide +kernel) (fun hm hW hFr2 => ?_)
      replace hFr := hFr.tr hFr2; clear hFr2
      refine zV_eq (st2 := []) rfl rfl rfl rfl ?_
      refine zV_blk (pc' := 48) (lo' := [(5, .int 0), (3, .long 0), (2, .int 0), (0, .ref am), (1, .int x1)]) (st' := []) [.iconst 0, .istore_n 2, .lconst 0, .lstore_n 3, .iconst 0, .istore 5] (by decide +kernel) rfl ?_
      refine zV_pick (lo2 := [(0, .ref am), (2, .int 0), (3, .long 0), (5, .int 0)]) [3, 2, 1, 0] rfl ?_
      exact cmkeeps_48L s0 D cB cI cJ cD am a1 a2 a3 (upd F 0 0) G tp oc n  n (0, 0, 0, v4) hW hFr h hQ
    · replace h := zif_neg q h
      clear q
      refine zV_blk (pc' := 29) (lo' := [(0, .ref am), (1, .int x1)]) (st' := [.int (-1)]) [.iconst (-1)] (by decide +kernel) rfl ?_
      obtain rfl := Option.some.inj h
      exact zV_iret rfl (by decide +kernel) (hQ _ rfl hm hW hFr)

