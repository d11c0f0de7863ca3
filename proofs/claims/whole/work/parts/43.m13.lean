def mwritesLaw_208 (n : Nat) (F : Nat → Int32) (w : Nat → Int32) (oc : Nat → Int32) (x1 : Int32) (x2 : Int32) : Option ((Int32 × (Nat → Int32) × (Nat → Int32)) ⊕ ((Nat → Int32) × (Nat → Int32))) := some (.inl ((x2 + 1), F, oc))
set_option maxHeartbeats 4000000 in
set_option maxRecDepth 100000 in
theorem cmwritesLaw_208 (s0 : State) (D : va_G) (cB cI cJ cD : ClassId) (am a1 a2 a3 : Nat) (F : Nat → Int32) (G : Nat → Int64) (tp w oc : Nat → Int32) (n : Nat) (x1 : Int32) (x2 : Int32) {hi hm : zHp} {nx : Nat} {Q : Option Value → zHp → zHp → Nat → Prop} {hm0 : zHp} {x : (Int32 × (Nat → Int32) × (Nat → Int32)) ⊕ ((Nat → Int32) × (Nat → Int32))} (hW : mW cB cI am a1 a2 a3 F G tp w oc hm) (hFr : mFr am a1 a2 a3 hm0 hm) (h : mwritesLaw_208 n F w oc x1 x2 = some x) (hL180 : ∀ s : Int32 × (Nat → Int32) × (Nat → Int32), x = (.inl s) → ∀ hm', mW cB cI am a1 a2 a3 s.2.1 G tp w s.2.2 hm' → mFr am a1 a2 a3 hm0 hm' → zV s0 D (zty cB cI cJ cD) yX12_writesLaw cX12_writesLaw 3 none 4 87 0 0 180 [(0, .ref am), (1, .int x1), (2, .int s.1)] [] hi hm' nx Q) (hQ : ∀ r : (Nat → Int32) × (Nat → Int32), x = (.inr r) → ∀ hm', mW cB cI am a1 a2 a3 r.1 G tp w r.2 hm' → mFr am a1 a2 a3 hm0 hm' → Q none hi hm' nx) : zV s0 D (zty cB cI cJ cD) yX12_writesLaw cX12_writesLaw 3 none 4 87 0 0 208 [(0, .ref am), (1, .int x1), (2, .int x2)] [] hi hm nx Q := by
  unfold mwritesLaw_208 at h
  refine zV_blk (pc' := 211) (lo' := [(2, .int (x2 + 1)), (0, .ref am), (1, .int x1)]) (st' := []) [.iinc 2 1] (by decide +kernel) rfl ?_
  refine zV_goto (tgt := 180) (off := -31) (by decide +kernel) (by decide) ?_
  obtain rfl := Option.some.inj h
  refine zV_pick (lo2 := [(0, .ref am), (1, .int x1), (2, .int (x2 + 1))]) [1, 2, 0] rfl ?_
  exact hL180 _ rfl hm hW hFr
def mwritesLaw_180 (n : Nat) (w : Nat → Int32) (x1 : Int32) (s : Int32 × (Nat → Int32) × (Nat → Int32)) : Option ((Int32 × (Nat → Int32) × (Nat → Int32)) ⊕ ((Nat → Int32) × (Nat → Int32))) := zck (zin ((x1 + 8)) 35802) ((if ((w ((x1 + 8) : Int32).toNatClampNeg) : Int32) ≤ (s.1 : Int32) then (moctet1 s.2.1 s.2.2 59).bind (fun v1 => some (.inr (v1.1, v1.2))) else (misLeap n w x1 (s.1 : Int32).toInt64).bind (fun v2 => (if v2 = true then (mwrites n s.2.1 s.2.2 s.1).bind (fun v3 => (mwritesLaw_208 n v3.1 w v3.2 x1 s.1)) else (mwritesLaw_208 n s.2.1 w s.2.2 x1 s.1)))))
set_option maxHeartbeats 4000000 in
set_option maxRecDepth 100000 in
theorem cmwritesLaw_180 (s0 : State) (D : va_G) (cB cI cJ cD : ClassId) (am a1 a2 a3 : Nat) (G : Nat → Int64) (tp : Nat → Int32) (w : Nat → Int32) (n : Nat) (x1 : Int32) (s : Int32 × (Nat → Int32) × (Nat → Int32)) (x : (Int32 × (Nat → Int32) × (Nat → Int32)) ⊕ ((Nat → Int32) × (Nat → Int32))) {hi hm : zHp} {nx : Nat} {Q : Option Value → zHp → zHp → Nat → Prop} {hm0 : zHp} (hW : mW cB cI am a1 a2 a3 s.2.1 G tp w s.2.2 hm) (hFr : mFr am a1 a2 a3 hm0 hm) (h : mwritesLaw_180 n w x1 s = some x) (hL180 : ∀ s : Int32 × (Nat → Int32) × (Nat → Int32), x = (.inl s) → ∀ hm', mW cB cI am a1 a2 a3 s.2.1 G tp w s.2.2 hm' → mFr am a1 a2 a3 hm0 hm' → zV s0 D (zty cB cI cJ cD) yX12_writesLaw cX12_writesLaw 3 none 4 87 0 0 180 [(0, .ref am), (1, .int x1), (2, .int s.1)] [] hi hm' nx Q) (hQ : ∀ r : (Nat → Int32) × (Nat → Int32), x = (.inr r) → ∀ hm', mW cB cI am a1 a2 a3 r.1 G tp w r.2 hm' → mFr am a1 a2 a3 hm0 hm' → Q none hi hm' nx) : zV s0 D (zty cB cI cJ cD) yX12_writesLaw cX12_writesLaw 3 none 4 87 0 0 180 [(0, .ref am), (1, .int x1), (2, .int s.1)] [] hi hm nx Q := by
  unfold mwritesLaw_180 at h
  refine zV_blk (pc' := 182) (lo' := [(0, .ref am), (1, .int x1), (2, .int s.1)]) (st' := [.ref am, .int s.1]) [.iload_n 2, .aload_n 0] (by decide +kernel) rfl ?_
  refine m_get (idx := 18) (k := 12) (v := .ref a2) hW m_in12 (by decide) (zT_mem 1452 (by decide +kernel) rfl) rfl (by decide +kernel) ?_
  refine zV_blk (pc' := 189) (lo' := [(0, .ref am), (1, .int x1), (2, .int s.1)]) (st' := [.int (x1 + 8), .ref a2, .int s.1]) [.iload_n 1, .bipush 8, .iadd] (by decide +kernel) rfl ?_
  obtain ⟨hz, h⟩ := zck_some h
  refine m_wld hW hz (by decide +kernel) ?_
  refine zV_icmp_ge (tgt := 214) (off := 24) (by decide +kernel) (by decide) (fun q => ?_) (fun q => ?_)
  · replace h := zif_pos q h
    clear q
    refine zV_blk (pc' := 217) (lo' := [(0, .ref am), (1, .int x1), (2, .int s.1)]) (st' := [.int 59, .ref am]) [.aload_n 0, .bipush 59] (by decide +kernel) rfl ?_
    obtain ⟨v1, hv1, h⟩ := zbind h
    refine m_cC (idx := 297) (rest := []) hW (cmoctet1 s0 D cB cI cJ cD am a1 a2 a3 s.2.1 G tp w s.2.2 59 v1 hv1) oX12_octet1 rfl (zT_mem 1780 (by decide +kernel) rfl) (zT_mem 1782 (by decide +kernel) rfl) (zT_mem 58 (by decide +kernel) rfl) rfl rfl (Nat.le_of_ble_eq_true rfl) ⟨by decide, by decide⟩ (by decide +kernel) (fun hm hW hFr2 => ?_)
    replace hFr := hFr.tr hFr2; clear hFr2
    refine zV_eq (st2 := []) rfl rfl rfl rfl ?_
    obtain rfl := Option.some.inj h
    exact zV_vret rfl (by decide +kernel) (hQ _ rfl hm hW hFr)
  · replace h := zif_neg q h
    clear q
    refine zV_blk (pc' := 197) (lo' := [(0, .ref am), (1, .int x1), (2, .int s.1)]) (st' := [.long (s.1 : Int32).toInt64, .int x1, .ref am]) [.aload_n 0, .iload_n 1, .iload_n 2, .i2l] (by decide +kernel) rfl ?_
    obtain ⟨v2, hv2, h⟩ := zbind h
    refine m_cR (idx := 236) (rest := []) hW (cmisLeap s0 D cB cI cJ cD am a1 a2 a3 s.2.1 G tp w s.2.2 n x1 (s.1 : Int32).toInt64 v2 hv2) oX12_isLeap rfl (zT_mem 1805 (by decide +kernel) rfl) (zT_mem 1807 (by decide +kernel) rfl) (zT_mem 64 (by decide +kernel) rfl) rfl rfl (Nat.le_of_ble_eq_true rfl) ⟨by decide, by decide⟩ (by decide +kernel) ?_
    refine zV_eq (st2 := [.int (zb v2)]) rfl rfl rfl rfl ?_
    refine zV_bif_eq (tgt := 208) (off := 8) (by decide +kernel) (by decide) (fun q => ?_) (fun q => ?_)
    · replace h := zif_neg q h
      clear q
      refine zV_pick (lo2 := [(0, .ref am), (1, .int x1), (2, .int s.1)]) [0, 1, 2] rfl ?_
      exact cmwritesLaw_208 s0 D cB cI cJ cD am a1 a2 a3 s.2.1 G tp w s.2.2 n x1 s.1 hW hFr h hL180 hQ
    · replace h := zif_pos q h
      clear q
      refine zV_blk (pc' := 205) (lo' := [(0, .ref am), (1, .int x1), (2, .int s.1)]) (st' := [.int s.1, .ref am]) [.aload_n 0, .iload_n 2] (by decide +kernel) rfl ?_
      obtain ⟨v3, hv3, h⟩ := zbind h
      refine m_cC (idx := 308) (rest := []) hW (cmwrites s0 D cB cI cJ cD am a1 a2 a3 s.2.1 G tp w s.2.2 n s.1 v3 hv3) oX12_writes rfl (zT_mem 1789 (by decide +kernel) rfl) (zT_mem 1791 (by decide +kernel) rfl) (zT_mem 60 (by decide +kernel) rfl) rfl rfl (Nat.le_of_ble_eq_true rfl) ⟨by decide, by decide⟩ (by decide +kernel) (fun hm hW hFr2 => ?_)
      replace hFr := hFr.tr hFr2; clear hFr2
      refine zV_eq (st2 := []) rfl rfl rfl rfl ?_
      refine zV_pick (lo2 := [(0, .ref am), (1, .int x1), (2, .int s.1)]) [0, 1, 2] rfl ?_
      exact cmwritesLaw_208 s0 D cB cI cJ cD am a1 a2 a3 v3.1 G tp w v3.2 n x1 s.1 hW hFr h hL180 hQ
theorem cmwritesLaw_180L (s0 : State) (D : va_G) (cB cI cJ cD : ClassId) (am a1 a2 a3 : Nat) (G : Nat → Int64) (tp : Nat → Int32) (w : Nat → Int32) (n : Nat) (x1 : Int32) : ∀ (k : Nat) (s : Int32 × (Nat → Int32) × (Nat → Int32)) {hi hm : zHp} {nx : Nat} {Q : Option Value → zHp → zHp → Nat → Prop} {hm0 : zHp} (_ : mW cB cI am a1 a2 a3 s.2.1 G tp w s.2.2 hm) (_ : mFr am a1 a2 a3 hm0 hm) {x : (Nat → Int32) × (Nat → Int32)} (_ : zloop (mwritesLaw_180 n w x1) k s = some x) (hQ : ∀ r : (Nat → Int32) × (Nat → Int32), x = r → ∀ hm', mW cB cI am a1 a2 a3 r.1 G tp w r.2 hm' → mFr am a1 a2 a3 hm0 hm' → Q none hi hm' nx), zV s0 D (zty cB cI cJ cD) yX12_writesLaw cX12_writesLaw 3 none 4 87 0 0 180 [(0, .ref am), (1, .int x1), (2, .int s.1)] [] hi hm nx Q
  | 0, s, _, _, _, _, _, hW, hFr, _, h, _ => by cases h
  | k + 1, s, hi, hm, nx, Q, hm0, hW, hFr, x, h, hQ => by
    obtain ⟨z, hz, h1, h2⟩ := zloop_succ h
    exact cmwritesLaw_180 s0 D cB cI cJ cD am a1 a2 a3 G tp w n x1 s z hW hFr hz (fun s' hs hm' hW' hFr' => cmwritesLaw_180L s0 D cB cI cJ cD am a1 a2 a3 G tp w n x1 k s' hW' hFr' (h1 s' hs) hQ) (fun r hr hm' hW' hFr' => hQ r (h2 _ hr).symm hm' hW' hFr')
def mwritesLaw_121 (n : Nat) (F : Nat → Int32) (w : Nat → Int32) (oc : Nat → Int32) (x1 : Int32) (x2 : Int32) (t1 : Int64) : Option ((Int32 × (Nat → Int32) × (Nat → Int32)) ⊕ ((Nat → Int32) × (Nat → Int32))) := zck (zin (((x1 + 18) + x2)) 35802) ((mwritesTold n F oc t1 (w (((x1 + 18) + x2) : Int32).toNatClampNeg)).bind (fun v1 => some (.inl ((x2 + 1), v1.1, v1.2))))
set_option maxHeartbeats 4000000 in
set_option maxRecDepth 100000 in
theorem cmwritesLaw_121 (s0 : State) (D : va_G) (cB cI cJ cD : ClassId) (am a1 a2 a3 : Nat) (F : Nat → Int32) (G : Nat → Int64) (tp w oc : Nat → Int32) (n : Nat) (x1 : Int32) (x2 : Int32) (t1 : Int64) {hi hm : zHp} {nx : Nat} {Q : Option Value → zHp → zHp → Nat → Prop} {hm0 : zHp} {x : (Int32 × (Nat → Int32) × (Nat → Int32)) ⊕ ((Nat → Int32) × (Nat → Int32))} (hW : mW cB cI am a1 a2 a3 F G tp w oc hm) (hFr : mFr am a1 a2 a3 hm0 hm) (h : mwritesLaw_121 n F w oc x1 x2 t1 = some x) (hL81 : ∀ s : Int32 × (Nat → Int32) × (Nat → Int32), x = (.inl s) → ∀ hm', mW cB cI am a1 a2 a3 s.2.1 G tp w s.2.2 hm' → mFr am a1 a2 a3 hm0 hm' → zV s0 D (zty cB cI cJ cD) yX12_writesLaw cX12_writesLaw 3 none 4 87 0 0 81 [(0, .ref am), (1, .int x1), (2, .int s.1)] [] hi hm' nx Q) (hQ : ∀ r : (Nat → Int32) × (Nat → Int32), x = (.inr r) → ∀ hm', mW cB cI am a1 a2 a3 r.1 G tp w r.2 hm' → mFr am a1 a2 a3 hm0 hm' → Q none hi hm' nx) : zV s0 D (zty cB cI cJ cD) yX12_writesLaw cX12_writesLaw 3 none 4 87 0 0 121 [(0, .ref am), (1, .int x1), (2, .int x2)] [.long t1, .ref am] hi hm nx Q := by
  unfold mwritesLaw_121 at h
  refine zV_blk (pc' := 122) (lo' := [(0, .ref am), (1, .int x1), (2, .int x2)]) (st' := [.ref am, .long t1, .ref am]) [.aload_n 0] (by decide +kernel) rfl ?_
  refine m_get (idx := 18) (k := 12) (v := .ref a2) hW m_in12 (by decide) (zT_mem 1452 (by decide +kernel) rfl) rfl (by decide +kernel) ?_
  refine zV_blk (pc' := 131) (lo' := [(0, .ref am), (1, .int x1), (2, .int x2)]) (st' := [.int ((x1 + 18) + x2), .ref a2, .long t1, .ref am]) [.iload_n 1, .bipush 18, .iadd, .iload_n 2, .iadd] (by decide +kernel) rfl ?_
  obtain ⟨hz, h⟩ := zck_some h
  refine m_wld hW hz (by decide +kernel) ?_
  obtain ⟨v1, hv1, h⟩ := zbind h
  refine m_cC (idx := 311) (rest := []) hW (cmwritesTold s0 D cB cI cJ cD am a1 a2 a3 F G tp w oc n t1 (w (((x1 + 18) + x2) : Int32).toNatClampNeg) v1 hv1) oX12_writesTold rfl (zT_mem 1801 (by decide +kernel) rfl) (zT_mem 1803 (by decide +kernel) rfl) (zT_mem 63 (by decide +kernel) rfl) rfl rfl (Nat.le_of_ble_eq_true rfl) ⟨by decide, by decide⟩ (by decide +kernel) (fun hm hW hFr2 => ?_)
  replace hFr := hFr.tr hFr2; clear hFr2
  refine zV_eq (st2 := []) rfl rfl rfl rfl ?_
  refine zV_blk (pc' := 138) (lo' := [(2, .int (x2 + 1)), (0, .ref am), (1, .int x1)]) (st' := []) [.iinc 2 1] (by decide +kernel) rfl ?_
  refine zV_goto (tgt := 81) (off := -57) (by decide +kernel) (by decide) ?_
  obtain rfl := Option.some.inj h
  refine zV_pick (lo2 := [(0, .ref am), (1, .int x1), (2, .int (x2 + 1))]) [1, 2, 0] rfl ?_
  exact hL81 _ rfl hm hW hFr
def mwritesLaw_81 (n : Nat) (w : Nat → Int32) (x1 : Int32) (s : Int32 × (Nat → Int32) × (Nat → Int32)) : Option ((Int32 × (Nat → Int32) × (Nat → Int32)) ⊕ ((Nat → Int32) × (Nat → Int32))) := zck (zin ((x1 + 17)) 35802) ((if ((w ((x1 + 17) : Int32).toNatClampNeg) : Int32) ≤ (s.1 : Int32) then (moctet1 s.2.1 s.2.2 59).bind (fun v1 => some (.inr (v1.1, v1.2))) else (if (s.1 : Int32) = (0 : Int32) then (mwritesLaw_121 n s.2.1 w s.2.2 x1 s.1 5969497) else (if ((s.1 - s.1 / 2 * 2) : Int32) = (1 : Int32) then (mwritesLaw_121 n s.2.1 w s.2.2 x1 s.1 14836) else (mwritesLaw_121 n s.2.1 w s.2.2 x1 s.1 2740)))))
set_option maxHeartbeats 4000000 in
set_option maxRecDepth 100000 in
theorem cmwritesLaw_81 (s0 : State) (D : va_G) (cB cI cJ cD : ClassId) (am a1 a2 a3 : Nat) (G : Nat → Int64) (tp : Nat → Int32) (w : Nat → Int32) (n : Nat) (x1 : Int32) (s : Int32 × (Nat → Int32) × (Nat → Int32)) (x : (Int32 × (Nat → Int32) × (Nat → Int32)) ⊕ ((Nat → Int32) × (Nat → Int32))) {hi hm : zHp} {nx : Nat} {Q : Option Value → zHp → zHp → Nat → Prop} {hm0 : zHp} (hW : mW cB cI am a1 a2 a3 s.2.1 G tp w s.2.2 hm) (hFr : mFr am a1 a2 a3 hm0 hm) (h : mwritesLaw_81 n w x1 s = some x) (hL81 : ∀ s : Int32 × (Nat → Int32) × (Nat → Int32), x = (.inl s) → ∀ hm', mW cB cI am a1 a2 a3 s.2.1 G tp w s.2.2 hm' → mFr am a1 a2 a3 hm0 hm' → zV s0 D (zty cB cI cJ cD) yX12_writesLaw cX12_writesLaw 3 none 4 87 0 0 81 [(0, .ref am), (1, .int x1), (2, .int s.1)] [] hi hm' nx Q) (hQ : ∀ r : (Nat → Int32) × (Nat → Int32), x = (.inr r) → ∀ hm', mW cB cI am a1 a2 a3 r.1 G tp w r.2 hm' → mFr am a1 a2 a3 hm0 hm' → Q none hi hm' nx) : zV s0 D (zty cB cI cJ cD) yX12_writesLaw cX12_writesLaw 3 none 4 87 0 0 81 [(0, .ref am), (1, .int x1), (2, .int s.1)] [] hi hm nx Q := by
  unfold mwritesLaw_81 at h
  refine zV_blk (pc' := 83) (lo' := [(0, .ref am), (1, .int x1), (2, .int s.1)]) (st' := [.ref am, .int s.1]) [.iload_n 2, .aload_n 0] (by decide +kernel) rfl ?_
  refine m_get (idx := 18) (k := 12) (v := .ref a2) hW m_in12 (by decide) (zT_mem 1452 (by decide +kernel) rfl) rfl (by decide +kernel) ?_
  refine zV_blk (pc' := 90) (lo' := [(0, .ref am), (1, .int x1), (2, .int s.1)]) (st' := [.int (x1 + 17), .ref a2, .int s.1]) [.iload_n 1, .bipush 17, .iadd] (by decide +kernel) rfl ?_
  obtain ⟨hz, h⟩ := zck_some h
  refine m_wld hW hz (by decide +kernel) ?_
  refine zV_icmp_ge (tgt := 141) (off := 50) (by decide +kernel) (by decide) (fun q => ?_) (fun q => ?_)
  · replace h := zif_pos q h
    clear q
    refine zV_blk (pc' := 144) (lo' := [(0, .ref am), (1, .int x1), (2, .int s.1)]) (st' := [.int 59, .ref am]) [.aload_n 0, .bipush 59] (by decide +kernel) rfl ?_
    obtain ⟨v1, hv1, h⟩ := zbind h
    refine m_cC (idx := 297) (rest := []) hW (cmoctet1 s0 D cB cI cJ cD am a1 a2 a3 s.2.1 G tp w s.2.2 59 v1 hv1) oX12_octet1 rfl (zT_mem 1780 (by decide +kernel) rfl) (zT_mem 1782 (by decide +kernel) rfl) (zT_mem 58 (by decide +kernel) rfl) rfl rfl (Nat.le_of_ble_eq_true rfl) ⟨by decide, by decide⟩ (by decide +kernel) (fun hm hW hFr2 => ?_)
    replace hFr := hFr.tr hFr2; clear hFr2
    refine zV_eq (st2 := []) rfl rfl rfl rfl ?_
    refine zV_goto (tgt := 220) (off := 73) (by decide +kernel) (by decide) ?_
    obtain rfl := Option.some.inj h
    exact zV_vret rfl (by decide +kernel) (hQ _ rfl hm hW hFr)
  · replace h := zif_neg q h
    clear q
    refine zV_blk (pc' := 96) (lo' := [(0, .ref am), (1, .int x1), (2, .int s.1)]) (st' := [.int s.1, .ref am]) [.aload_n 0, .iload_n 2] (by decide +kernel) rfl ?_
    refine zV_if_ne (tgt := 105) (off := 9) (by decide +kernel) (by decide) (fun q => ?_) (fun q => ?_)
    · replace h := zif_neg q h
      clear q
      refine zV_blk (pc' := 107) (lo' := [(0, .ref am), (1, .int x1), (2, .int s.1)]) (st' := [.int 2, .int s.1, .ref am]) [.iload_n 2, .iconst 2] (by decide +kernel) rfl ?_
      refine zV_irem (by decide +kernel) (by decide +kernel) ?_
      refine zV_blk (pc' := 109) (lo' := [(0, .ref am), (1, .int x1), (2, .int s.1)]) (st' := [.int 1, .int (s.1 - s.1 / 2 * 2), .ref am]) [.iconst 1] (by decide +kernel) rfl ?_
      refine zV_icmp_ne (tgt := 118) (off := 9) (by decide +kernel) (by decide) (fun q => ?_) (fun q => ?_)
      · replace h := zif_neg q h
        clear q
        refine zV_ldc2 (idx := 154) (v := 2740) (zT_mem 1629 (by decide +kernel) rfl) (by decide +kernel) ?_
        refine zV_pick (lo2 := [(0, .ref am), (1, .int x1), (2, .int s.1)]) [0, 1, 2] rfl ?_
        exact cmwritesLaw_121 s0 D cB cI cJ cD am a1 a2 a3 s.2.1 G tp w s.2.2 n x1 s.1 2740 hW hFr h hL81 hQ
      · replace h := zif_pos q h
        clear q
        refine zV_ldc2 (idx := 152) (v := 14836) (zT_mem 1628 (by decide +kernel) rfl) (by decide +kernel) ?_
        refine zV_goto (tgt := 121) (off := 6) (by decide +kernel) (by decide) ?_
        refine zV_pick (lo2 := [(0, .ref am), (1, .int x1), (2, .int s.1)]) [0, 1, 2] rfl ?_
        exact cmwritesLaw_121 s0 D cB cI cJ cD am a1 a2 a3 s.2.1 G tp w s.2.2 n x1 s.1 14836 hW hFr h hL81 hQ
    · replace h := zif_pos q h
      clear q
      refine zV_ldc2 (idx := 150) (v := 5969497) (zT_mem 1623 (by decide +kernel) rfl) (by decide +kernel) ?_
      refine zV_goto (tgt := 121) (off := 19) (by decide +kernel) (by decide) ?_
      refine zV_pick (lo2 := [(0, .ref am), (1, .int x1), (2, .int s.1)]) [0, 1, 2] rfl ?_
      exact cmwritesLaw_121 s0 D cB cI cJ cD am a1 a2 a3 s.2.1 G tp w s.2.2 n x1 s.1 5969497 hW hFr h hL81 hQ
theorem cmwritesLaw_81L (s0 : State) (D : va_G) (cB cI cJ cD : ClassId) (am a1 a2 a3 : Nat) (G : Nat → Int64) (tp : Nat → Int32) (w : Nat → Int32) (n : Nat) (x1 : Int32) : ∀ (k : Nat) (s : Int32 × (Nat → Int32) × (Nat → Int32)) {hi hm : zHp} {nx : Nat} {Q : Option Value → zHp → zHp → Nat → Prop} {hm0 : zHp} (_ : mW cB cI am a1 a2 a3 s.2.1 G tp w s.2.2 hm) (_ : mFr am a1 a2 a3 hm0 hm) {x : (Nat → Int32) × (Nat → Int32)} (_ : zloop (mwritesLaw_81 n w x1) k s = some x) (hQ : ∀ r : (Nat → Int32) × (Nat → Int32), x = r → ∀ hm', mW cB cI am a1 a2 a3 r.1 G tp w r.2 hm' → mFr am a1 a2 a3 hm0 hm' → Q none hi hm' nx), zV s0 D (zty cB cI cJ cD) yX12_writesLaw cX12_writesLaw 3 none 4 87 0 0 81 [(0, .ref am), (1, .int x1), (2, .int s.1)] [] hi hm nx Q
  | 0, s, _, _, _, _, _, hW, hFr, _, h, _ => by cases h
  | k + 1, s, hi, hm, nx, Q, hm0, hW, hFr, x, h, hQ => by
    obtain ⟨z, hz, h1, h2⟩ := zloop_succ h
    exact cmwritesLaw_81 s0 D cB cI cJ cD am a1 a2 a3 G tp w n x1 s z hW hFr hz (fun s' hs hm' hW' hFr' => cmwritesLaw_81L s0 D cB cI cJ cD am a1 a2 a3 G tp w n x1 k s' hW' hFr' (h1 s' hs) hQ) (fun r hr hm' hW' hFr' => hQ r (h2 _ hr).symm hm' hW' hFr')
def mwritesLaw (n : Nat) (F : Nat → Int32) (w : Nat → Int32) (oc : Nat → Int32) (x1 : Int32) : Option ((Nat → Int32) × (Nat → Int32)) := zck (zin ((x1 + 3)) 35802) ((if ((w ((x1 + 3) : Int32).toNatClampNeg) : Int32) = (1 : Int32) then zck (zin ((x1 + 9)) 35802) ((mwritesTold n F oc 186542 (w ((x1 + 9) : Int32).toNatClampNeg)).bind (fun v2 => zck (zin ((x1 + 10)) 35802) ((mwritesTold n v2.1 v2.2 486 (w ((x1 + 10) : Int32).toNatClampNeg)).bind (fun v3 => (mwritesWord n v3.1 v3.2 20194516).bind (fun v4 => zck (zin ((x1 + 11)) 35802) ((mwritesLast n v4.1 v4.2 (w ((x1 + 11) : Int32).toNatClampNeg)).bind (fun v5 => some (v5.1, v5.2)))))))) else zck (zin ((x1 + 3)) 35802) ((if ((w ((x1 + 3) : Int32).toNatClampNeg) : Int32) = (2 : Int32) then (zloop (mwritesLaw_81 n w x1) n (0, F, oc)) else zck (zin ((x1 + 3)) 35802) ((if ((w ((x1 + 3) : Int32).toNatClampNeg) : Int32) = (3 : Int32) then zck (zin ((x1 + 8)) 35802) ((mwritesTold n F oc 18935 (w ((x1 + 8) : Int32).toNatClampNeg)).bind (fun v1 => (zloop (mwritesLaw_180 n w x1) n (0, v1.1, v1.2)))) else some (F, oc)))))))
theorem oX12_writesLaw : zO yX12_writesLaw cX12_writesLaw 3 none 1 := ⟨zT_mem 1800 (by decide +kernel) rfl, zT_mem 94 (by decide +kernel) rfl, by decide +kernel, by decide +kernel, by decide +kernel⟩
set_option maxHeartbeats 4000000 in
set_option maxRecDepth 100000 in
theorem cmwritesLaw (s0 : State) (D : va_G) (cB cI cJ cD : ClassId) (am a1 a2 a3 : Nat) (F : Nat → Int32) (G : Nat → Int64) (tp w oc : Nat → Int32) (n : Nat) (x1 : Int32) (x : (Nat → Int32) × (Nat → Int32)) (h : mwritesLaw n F w oc x1 = some x) : mC s0 D cB cI cJ cD am a1 a2 a3 yX12_writesLaw cX12_writesLaw 3 none 4 87 [.int x1] F G tp w oc none x.1 G tp w x.2 := by
  intro hi hm nx Q hW hQ0
  have hQ : ∀ r : (Nat → Int32) × (Nat → Int32), x = r → ∀ hm', mW cB cI am a1 a2 a3 r.1 G tp w r.2 hm' → mFr am a1 a2 a3 hm hm' → Q none hi hm' nx := fun r hr => by subst hr; exact hQ0
  have hFr : mFr am a1 a2 a3 hm hm := mFr.rf
  clear hQ0
  refine zM_of (by decide +kernel) (Nat.le_of_ble_eq_true rfl) ?_
  unfold mwritesLaw at h
  refine zV_eq (lo2 := [(0, .ref am), (1, .int x1)]) rfl rfl rfl rfl ?_
  refine zV_blk (pc' := 1) (lo' := [(0, .ref am), (1, .int x1)]) (st' := [.ref am]) [.aload_n 0] (by decide +kernel) rfl ?_
  refine m_get (idx := 18) (k := 12) (v := .ref a2) hW m_in12 (by decide) (zT_mem 1452 (by decide +kernel) rfl) rfl (by decide +kernel) ?_
  refine zV_blk (pc' := 7) (lo' := [(0, .ref am), (1, .int x1)]) (st' := [.int (x1 + 3), .ref a2]) [.iload_n 1, .iconst 3, .iadd] (by decide +kernel) rfl ?_
  obtain ⟨hz, h⟩ := zck_some h
  refine m_wld hW hz (by decide +kernel) ?_
  refine zV_blk (pc' := 9) (lo' := [(0, .ref am), (1, .int x1)]) (st' := [.int 1, .int (w ((x1 + 3) : Int32).toNatClampNeg)]) [.iconst 1] (by decide +kernel) rfl ?_
  refine zV_icmp_ne (tgt := 67) (off := 58) (by decide +kernel) (by decide) (fun q => ?_) (fun q => ?_)
  · replace h := zif_neg q h
    clear q
    refine zV_blk (pc' := 68) (lo' := [(0, .ref am), (1, .int x1)]) (st' := [.ref am]) [.aload_n 0] (by decide +kernel) rfl ?_
    refine m_get (idx := 18) (k := 12) (v := .ref a2) hW m_in12 (by decide) (zT_mem 1452 (by decide +kernel) rfl) rfl (by decide +kernel) ?_
    refine zV_blk (pc' := 74) (lo' := [(0, .ref am), (1, .int x1)]) (st' := [.int (x1 + 3), .ref a2]) [.iload_n 1, .iconst 3, .iadd] (by decide +kernel) rfl ?_
    obtain ⟨hz, h⟩ := zck_some h
    refine m_wld hW hz (by decide +kernel) ?_
    refine zV_blk (pc' := 76) (lo' := [(0, .ref am), (1, .int x1)]) (st' := [.int 2, .int (w ((x1 + 3) : Int32).toNatClampNeg)]) [.iconst 2] (by decide +kernel) rfl ?_
    refine zV_icmp_ne (tgt := 150) (off := 74) (by decide +kernel) (by decide) (fun q => ?_) (fun q => ?_)
    · replace h := zif_neg q h
      clear q
      refine zV_blk (pc' := 151) (lo' := [(0, .ref am), (1, .int x1)]) (st' := [.ref am]) [.aload_n 0] (by decide +kernel) rfl ?_
      refine m_get (idx := 18) (k := 12) (v := .ref a2) hW m_in12 (by decide) (zT_mem 1452 (by decide +kernel) rfl) rfl (by decide +kernel) ?_
      refine zV_blk (pc' := 157) (lo' := [(0, .ref am), (1, .int x1)]) (st' := [.int (x1 + 3), .ref a2]) [.iload_n 1, .iconst 3, .iadd] (by decide +kernel) rfl ?_
      obtain ⟨hz, h⟩ := zck_some h
      refine m_wld hW hz (by decide +kernel) ?_
      refine zV_blk (pc' := 159) (lo' := [(0, .ref am), (1, .int x1)]) (st' := [.int 3, .int (w ((x1 + 3) : Int32).toNatClampNeg)]) [.iconst 3] (by decide +kernel) rfl ?_
      refine zV_icmp_ne (tgt := 220) (off := 61) (by decide +kernel) (by decide) (fun q => ?_) (fun q => ?_)
      · replace h := zif_neg q h
        clear q
        obtain rfl := Option.some.inj h
        exact zV_vret rfl (by decide +kernel) (hQ _ rfl hm hW hFr)
      · replace h := zif_pos q h
        clear q
        refine zV_blk (pc' := 163) (lo' := [(0, .ref am), (1, .int x1)]) (st' := [.ref am]) [.aload_n 0] (by decide +kernel) rfl ?_
        refine zV_ldc2 (idx := 156) (v := 18935) (zT_mem 1630 (by decide +kernel) rfl) (by decide +kernel) ?_
        refine zV_blk (pc' := 167) (lo' := [(0, .ref am), (1, .int x1)]) (st' := [.ref am, .long 18935, .ref am]) [.aload_n 0] (by decide +kernel) rfl ?_
        refine m_get (idx := 18) (k := 12) (v := .ref a2) hW m_in12 (by decide) (zT_mem 1452 (by decide +kernel) rfl) rfl (by decide +kernel) ?_
        refine zV_blk (pc' := 174) (lo' := [(0, .ref am), (1, .int x1)]) (st' := [.int (x1 + 8), .ref a2, .long 18935, .ref am]) [.iload_n 1, .bipush 8, .iadd] (by decide +kernel) rfl ?_
        obtain ⟨hz, h⟩ := zck_some h
        refine m_wld hW hz (by decide +kernel) ?_
        obtain ⟨v1, hv1, h⟩ := zbind h
        refine m_cC (idx := 311) (rest := []) hW (cmwritesTold s0 D cB cI cJ cD am a1 a2 a3 F G tp w oc n 18935 (w ((x1 + 8) : Int32).toNatClampNeg) v1 hv1) oX12_writesTold rfl (zT_mem 1801 (by decide +kernel) rfl) (zT_mem 1803 (by decide +kernel) rfl) (zT_mem 63 (by decide +kernel) rfl) rfl rfl (Nat.le_of_ble_eq_true rfl) ⟨by decide, by decide⟩ (by decide +kernel) (fun hm hW hFr2 => ?_)
        replace hFr := hFr.tr hFr2; clear hFr2
        refine zV_eq (st2 := []) rfl rfl rfl rfl ?_
        refine zV_blk (pc' := 180) (lo' := [(2, .int 0), (0, .ref am), (1, .int x1)]) (st' := []) [.iconst 0, .istore_n 2] (by decide +kernel) rfl ?_
        refine zV_pick (lo2 := [(0, .ref am), (1, .int x1), (2, .int 0)]) [1, 2, 0] rfl ?_
        exact cmwritesLaw_180L s0 D cB cI cJ cD am a1 a2 a3 G tp w n x1 n (0, v1.1, v1.2) hW hFr h hQ
    · replace h := zif_pos q h
      clear q
      refine zV_blk (pc' := 81) (lo' := [(2, .int 0), (0, .ref am), (1, .int x1)]) (st' := []) [.iconst 0, .istore_n 2] (by decide +kernel) rfl ?_
      refine zV_pick (lo2 := [(0, .ref am), (1, .int x1), (2, .int 0)]) [1, 2, 0] rfl ?_
      exact cmwritesLaw_81L s0 D cB cI cJ cD am a1 a2 a3 G tp w n x1 n (0, F, oc) hW hFr h hQ
  · replace h := zif_pos q h
    clear q
    refine zV_blk (pc' := 13) (lo' := [(0, .ref am), (1, .int x1)]) (st' := [.ref am]) [.aload_n 0] (by decide +kernel) rfl ?_
    refine zV_ldc2 (idx := 138) (v := 186542) (zT_mem 1608 (by decide +kernel) rfl) (by decide +kernel) ?_
    refine zV_blk (pc' := 17) (lo' := [(0, .ref am), (1, .int x1)]) (st' := [.ref am, .long 186542, .ref am]) [.aload_n 0] (by decide +kernel) rfl ?_
    refine m_get (idx := 18) (k := 12) (v := .ref a2) hW m_in12 (by decide) (zT_mem 1452 (by decide +kernel) rfl) rfl (by decide +kernel) ?_
    refine zV_blk (pc' := 24) (lo' := [(0, .ref am), (1, .int x1)]) (st' := [.int (x1 + 9), .ref a2, .long 186542, .ref am]) [.iload_n 1, .bipush 9, .iadd] (by decide +kernel) rfl ?_
    obtain ⟨hz, h⟩ := zck_some h
    refine m_wld hW hz (by decide +kernel) ?_
    obtain ⟨v2, hv2, h⟩ := zbind h
    refine m_cC (idx := 311) (rest := []) hW (cmwritesTold s0 D cB cI cJ cD am a1 a2 a3 F G tp w oc n 186542 (w ((x1 + 9) : Int32).toNatClampNeg) v2 hv2) oX12_writesTold rfl (zT_mem 1801 (by decide +kernel) rfl) (zT_mem 1803 (by decide +kernel) rfl) (zT_mem 63 (by decide +kernel) rfl) rfl rfl (Nat.le_of_ble_eq_true rfl) ⟨by decide, by decide⟩ (by decide +kernel) (fun hm hW hFr2 => ?_)
    replace hFr := hFr.tr hFr2; clear hFr2
    refine zV_eq (st2 := []) rfl rfl rfl rfl ?_
    refine zV_blk (pc' := 29) (lo' := [(0, .ref am), (1, .int x1)]) (st' := [.ref am]) [.aload_n 0] (by decide +kernel) rfl ?_
    refine zV_ldc2 (idx := 129) (v := 486) (zT_mem 1617 (by decide +kernel) rfl) (by decide +kernel) ?_
    refine zV_blk (pc' := 33) (lo' := [(0, .ref am), (1, .int x1)]) (st' := [.ref am, .long 486, .ref am]) [.aload_n 0] (by decide +kernel) rfl ?_
    refine m_get (idx := 18) (k := 12) (v := .ref a2) hW m_in12 (by decide) (zT_mem 1452 (by decide +kernel) rfl) rfl (by decide +kernel) ?_
    refine zV_blk (pc' := 40) (lo' := [(0, .ref am), (1, .int x1)]) (st' := [.int (x1 + 10), .ref a2, .long 486, .ref am]) [.iload_n 1, .bipush 10, .iadd] (by decide +kernel) rfl ?_
    obtain ⟨hz, h⟩ := zck_some h
    refine m_wld hW hz (by decide +kernel) ?_
    obtain ⟨v3, hv3, h⟩ := zbind h
    refine m_cC (idx := 311) (rest := []) hW (cmwritesTold s0 D cB cI cJ cD am a1 a2 a3 v2.1 G tp w v2.2 n 486 (w ((x1 + 10) : Int32).toNatClampNeg) v3 hv3) oX12_writesTold rfl (zT_mem 1801 (by decide +kernel) rfl) (zT_mem 1803 (by decide +kernel) rfl) (zT_mem 63 (by decide +kernel) rfl) rfl rfl (Nat.le_of_ble_eq_true rfl) ⟨by decide, by decide⟩ (by decide +kernel) (fun hm hW hFr2 => ?_)
    replace hFr := hFr.tr hFr2; clear hFr2
    refine zV_eq (st2 := []) rfl rfl rfl rfl ?_
    refine zV_blk (pc' := 45) (lo' := [(0, .ref am), (1, .int x1)]) (st' := [.ref am]) [.aload_n 0] (by decide +kernel) rfl ?_
    refine zV_ldc2 (idx := 148) (v := 20194516) (zT_mem 1622 (by decide +kernel) rfl) (by decide +kernel) ?_
    obtain ⟨v4, hv4, h⟩ := zbind h
    refine m_cC (idx := 305) (rest := []) hW (cmwritesWord s0 D cB cI cJ cD am a1 a2 a3 v3.1 G tp w v3.2 n 20194516 v4 hv4) oX12_writesWord rfl (zT_mem 1776 (by decide +kernel) rfl) (zT_mem 1778 (by decide +kernel) rfl) (zT_mem 57 (by decide +kernel) rfl) rfl rfl (Nat.le_of_ble_eq_true rfl) ⟨by decide, by decide⟩ (by decide +kernel) (fun hm hW hFr2 => ?_)
    replace hFr := hFr.tr hFr2; clear hFr2
    refine zV_eq (st2 := []) rfl rfl rfl rfl ?_
    refine zV_blk (pc' := 53) (lo' := [(0, .ref am), (1, .int x1)]) (st' := [.ref am, .ref am]) [.aload_n 0, .aload_n 0] (by decide +kernel) rfl ?_
    refine m_get (idx := 18) (k := 12) (v := .ref a2) hW m_in12 (by decide) (zT_mem 1452 (by decide +kernel) rfl) rfl (by decide +kernel) ?_
    refine zV_blk (pc' := 60) (lo' := [(0, .ref am), (1, .int x1)]) (st' := [.int (x1 + 11), .ref a2, .ref am]) [.iload_n 1, .bipush 11, .iadd] (by decide +kernel) rfl ?_
    obtain ⟨hz, h⟩ := zck_some h
    refine m_wld hW hz (by decide +kernel) ?_
    obtain ⟨v5, hv5, h⟩ := zbind h
    refine m_cC (idx := 315) (rest := []) hW (cmwritesLast s0 D cB cI cJ cD am a1 a2 a3 v4.1 G tp w v4.2 n (w ((x1 + 11) : Int32).toNatClampNeg) v5 hv5) oX12_writesLast rfl (zT_mem 1785 (by decide +kernel) rfl) (zT_mem 1787 (by decide +kernel) rfl) (zT_mem 59 (by decide +kernel) rfl) rfl rfl (Nat.le_of_ble_eq_true rfl) ⟨by decide, by decide⟩ (by decide +kernel) (fun hm hW hFr2 => ?_)
    replace hFr := hFr.tr hFr2; clear hFr2
    refine zV_eq (st2 := []) rfl rfl rfl rfl ?_
    refine zV_goto (tgt := 220) (off := 156) (by decide +kernel) (by decide) ?_
    obtain rfl := Option.some.inj h
    exact zV_vret rfl (by decide +kernel) (hQ _ rfl hm hW hFr)

def mwrite_77 (n : Nat) (w : Nat → Int32) (x2 : Int32) (s : Int32 × (Nat → Int32) × (Nat → Int32)) : Option ((Int32 × (Nat → Int32) × (Nat → Int32)) ⊕ (Int32 × (Nat → Int32) × (Nat → Int32))) := zck (zin ((x2 + 4)) 35802) ((if ((w ((x2 + 4) : Int32).toNatClampNeg) : Int32) ≤ (s.1 : Int32) then (mwritesWord n s.2.1 s.2.2 398384).bind (fun v1 => zck (zin ((x2 + 5)) 35802) ((mwritesLast n v1.1 v1.2 (w ((x2 + 5) : Int32).toNatClampNeg)).bind (fun v2 => zck (zin ((x2 + 6)) 35802) ((mwritesTold n v2.1 v2.2 758955 (w ((x2 + 6) : Int32).toNatClampNeg)).bind (fun v3 => (mwritesWord n v3.1 v3.2 52).bind (fun v4 => zck (zin ((x2 + 7)) 35802) ((mwritesLast n v4.1 v4.2 (w ((x2 + 7) : Int32).toNatClampNeg)).bind (fun v5 => zck (zin ((x2 + 12)) 35802) ((mwritesTold n v5.1 v5.2 674469 (w ((x2 + 12) : Int32).toNatClampNeg)).bind (fun v6 => zck (zin ((x2 + 13)) 35802) ((mwritesTold n v6.1 v6.2 1476 (w ((x2 + 13) : Int32).toNatClampNeg)).bind (fun v7 => (mwritesWord n v7.1 v7.2 486).bind (fun v8 => zck (zin ((x2 + 14)) 35802) ((mwritesLast n v8.1 v8.2 (w ((x2 + 14) : Int32).toNatClampNeg)).bind (fun v9 => zck (zin ((x2 + 15)) 35802) ((mwritesTold n v9.1 v9.2 72590803 (w ((x2 + 15) : Int32).toNatClampNeg)).bind (fun v10 => (mwritesWord n v10.1 v10.2 486).bind (fun v11 => zck (zin ((x2 + 16)) 35802) ((mwritesLast n v11.1 v11.2 (w ((x2 + 16) : Int32).toNatClampNeg)).bind (fun v12 => some (.inr ((v12.1 16), v12.1, v12.2)))))))))))))))))))))) else zck (zin (((x2 + 24) + s.1)) 35802) ((mwrites n s.2.1 s.2.2 (w (((x2 + 24) + s.1) : Int32).toNatClampNeg)).bind (fun v13 => some (.inl ((s.1 + 1), v13.1, v13.2))))))
set_option maxHeartbeats 4000000 in
set_option maxRecDepth 100000 in
theorem cmwrite_77 (s0 : State) (D : va_G) (cB cI cJ cD : ClassId) (am a1 a2 a3 : Nat) (G : Nat → Int64) (tp : Nat → Int32) (w : Nat → Int32) (n : Nat) (x2 : Int32) (s : Int32 × (Nat → Int32) × (Nat → Int32)) (x : (Int32 × (Nat → Int32) × (Nat → Int32)) ⊕ (Int32 × (Nat → Int32) × (Nat → Int32))) {hi hm : zHp} {nx : Nat} {Q : Option Value → zHp → zHp → Nat → Prop} {hm0 : zHp} (hW : mW cB cI am a1 a2 a3 s.2.1 G tp w s.2.2 hm) (hFr : mFr am a1 a2 a3 hm0 hm) (h : mwrite_77 n w x2 s = some x) (hL77 : ∀ s : Int32 × (Nat → Int32) × (Nat → Int32), x = (.inl s) → ∀ hm', mW cB cI am a1 a2 a3 s.2.1 G tp w s.2.2 hm' → mFr am a1 a2 a3 hm0 hm' → zV s0 D (zty cB cI cJ cD) yX12_write cX12_write 4 (some .int) 5 109 0 0 77 [(0, .ref am), (2, .int x2), (3, .int s.1)] [] hi hm' nx Q) (hQ : ∀ r : Int32 × (Nat → Int32) × (Nat → Int32), x = (.inr r) → ∀ hm', mW cB cI am a1 a2 a3 r.2.1 G tp w r.2.2 hm' → mFr am a1 a2 a3 hm0 hm' → Q (some (.int r.1)) hi hm' nx) : zV s0 D (zty cB cI cJ cD) yX12_write cX12_write 4 (some .int) 5 109 0 0 77 [(0, .ref am), (2, .int x2), (3, .int s.1)] [] hi hm nx Q := by
  unfold mwrite_77 at h
  refine zV_blk (pc' := 79) (lo' := [(0, .ref am), (2, .int x2), (3, .int s.1)]) (st' := [.ref am, .int s.1]) [.iload_n 3, .aload_n 0] (by decide +kernel) rfl ?_
  refine m_get (idx := 18) (k := 12) (v := .ref a2) hW m_in12 (by decide) (zT_mem 1452 (by decide +kernel) rfl) rfl (by decide +kernel) ?_
  refine zV_blk (pc' := 85) (lo' := [(0, .ref am), (2, .int x2), (3, .int s.1)]) (st' := [.int (x2 + 4), .ref a2, .int s.1]) [.iload_n 2, .iconst 4, .iadd] (by decide +kernel) rfl ?_
  obtain ⟨hz, h⟩ := zck_some h
  refine m_wld hW hz (by decide +kernel) ?_
  refine zV_icmp_ge (tgt := 110) (off := 24) (by decide +kernel) (by decide) (fun q => ?_) (fun q => ?_)
  · replace h := zif_pos q h
    clear q
    refine zV_blk (pc' := 111) (lo' := [(0, .ref am), (2, .int x2), (3, .int s.1)]) (st' := [.ref am]) [.aload_n 0] (by decide +kernel) rfl ?_
    refine zV_ldc2 (idx := 163) (v := 398384) (zT_mem 1644 (by decide +kernel) rfl) (by decide +kernel) ?_
    obtain ⟨v1, hv1, h⟩ := zbind h
    refine m_cC (idx := 305) (rest := []) hW (cmwritesWord s0 D cB cI cJ cD am a1 a2 a3 s.2.1 G tp w s.2.2 n 398384 v1 hv1) oX12_writesWord rfl (zT_mem 1776 (by decide +kernel) rfl) (zT_mem 1778 (by decide +kernel) rfl) (zT_mem 57 (by decide +kernel) rfl) rfl rfl (Nat.le_of_ble_eq_true rfl) ⟨by decide, by decide⟩ (by decide +kernel) (fun hm hW hFr2 => ?_)
    replace hFr := hFr.tr hFr2; clear hFr2
    refine zV_eq (st2 := []) rfl rfl rfl rfl ?_
    refine zV_blk (pc' := 119) (lo' := [(0, .ref am), (2, .int x2), (3, .int s.1)]) (st' := [.ref am, .ref am]) [.aload_n 0, .aload_n 0] (by decide +kernel) rfl ?_
    refine m_get (idx := 18) (k := 12) (v := .ref a2) hW m_in12 (by decide) (zT_mem 1452 (by decide +kernel) rfl) rfl (by decide +kernel) ?_
    refine zV_blk (pc' := 125) (lo' := [(0, .ref am), (2, .int x2), (3, .int s.1)]) (st' := [.int (x2 + 5), .ref a2, .ref am]) [.iload_n 2, .iconst 5, .iadd] (by decide +kernel) rfl ?_
    obtain ⟨hz, h⟩ := zck_some h
    refine m_wld hW hz (by decide +kernel) ?_
    obtain ⟨v2, hv2, h⟩ := zbind h
    refine m_cC (idx := 315) (rest := []) hW (cmwritesLast s0 D cB cI cJ cD am a1 a2 a3 v1.1 G tp w v1.2 n (w ((x2 + 5) : Int32).toNatClampNeg) v2 hv2) oX12_writesLast rfl (zT_mem 1785 (by decide +kernel) rfl) (zT_mem 1787 (by decide +kernel) rfl) (zT_mem 59 (by decide +kernel) rfl) rfl rfl (Nat.le_of_ble_eq_true rfl) ⟨by decide, by decide⟩ (by decide +kernel) (fun hm hW hFr2 => ?_)
    replace hFr := hFr.tr hFr2; clear hFr2
    refine zV_eq (st2 := []) rfl rfl rfl rfl ?_
    refine zV_blk (pc' := 130) (lo' := [(0, .ref am), (2, .int x2), (3, .int s.1)]) (st' := [.ref am]) [.aload_n 0] (by decide +kernel) rfl ?_
    refine zV_ldc2 (idx := 165) (v := 758955) (zT_mem 1645 (by decide +kernel) rfl) (by decide +kernel) ?_
    refine zV_blk (pc' := 134) (lo' := [(0, .ref am), (2, .int x2), (3, .int s.1)]) (st' := [.ref am, .long 758955, .ref am]) [.aload_n 0] (by decide +kernel) rfl ?_
    refine m_get (idx := 18) (k := 12) (v := .ref a2) hW m_in12 (by decide) (zT_mem 1452 (by decide +kernel) rfl) rfl (by decide +kernel) ?_
    refine zV_blk (pc' := 141) (lo' := [(0, .ref am), (2, .int x2), (3, .int s.1)]) (st' := [.int (x2 + 6), .ref a2, .long 758955, .ref am]) [.iload_n 2, .bipush 6, .iadd] (by decide +kernel) rfl ?_
    obtain ⟨hz, h⟩ := zck_some h
    refine m_wld hW hz (by decide +kernel) ?_
    obtain ⟨v3, hv3, h⟩ := zbind h
    refine m_cC (idx := 311) (rest := []) hW (cmwritesTold s0 D cB cI cJ cD am a1 a2 a3 v2.1 G tp w v2.2 n 758955 (w ((x2 + 6) : Int32).toNatClampNeg) v3 hv3) oX12_writesTold rfl (zT_mem 1801 (by decide +kernel) rfl) (zT_mem 1803 (by decide +kernel) rfl) (zT_mem 63 (by decide +kernel) rfl) rfl rfl (Nat.le_of_ble_eq_true rfl) ⟨by decide, by decide⟩ (by decide +kernel) (fun hm hW hFr2 => ?_)
    replace hFr := hFr.tr hFr2; clear hFr2
    refine zV_eq (st2 := []) rfl rfl rfl rfl ?_
    refine zV_blk (pc' := 146) (lo' := [(0, .ref am), (2, .int x2), (3, .int s.1)]) (st' := [.ref am]) [.aload_n 0] (by decide +kernel) rfl ?_
    refine zV_ldc2 (idx := 167) (v := 52) (zT_mem 1650 (by decide +kernel) rfl) (by decide +kernel) ?_
    obtain ⟨v4, hv4, h⟩ := zbind h
    refine m_cC (idx := 305) (rest := []) hW (cmwritesWord s0 D cB cI cJ cD am a1 a2 a3 v3.1 G tp w v3.2 n 52 v4 hv4) oX12_writesWord rfl (zT_mem 1776 (by decide +kernel) rfl) (zT_mem 1778 (by decide +kernel) rfl) (zT_mem 57 (by decide +kernel) rfl) rfl rfl (Nat.le_of_ble_eq_true rfl) ⟨by decide, by decide⟩ (by decide +kernel) (fun hm hW hFr2 => ?_)
    replace hFr := hFr.tr hFr2; clear hFr2
    refine zV_eq (st2 := []) rfl rfl rfl rfl ?_
    refine zV_blk (pc' := 154) (lo' := [(0, .ref am), (2, .int x2), (3, .int s.1)]) (st' := [.ref am, .ref am]) [.aload_n 0, .aload_n 0] (by decide +kernel) rfl ?_
    refine m_get (idx := 18) (k := 12) (v := .ref a2) hW m_in12 (by decide) (zT_mem 1452 (by decide +kernel) rfl) rfl (by decide +kernel) ?_
    refine zV_blk (pc' := 161) (lo' := [(0, .ref am), (2, .int x2), (3, .int s.1)]) (st' := [.int (x2 + 7), .ref a2, .ref am]) [.iload_n 2, .bipush 7, .iadd] (by decide +kernel) rfl ?_
    obtain ⟨hz, h⟩ := zck_some h
    refine m_wld hW hz (by decide +kernel) ?_
    obtain ⟨v5, hv5, h⟩ := zbind h
    refine m_cC (idx := 315) (rest := []) hW (cmwritesLast s0 D cB cI cJ cD am a1 a2 a3 v4.1 G tp w v4.2 n (w ((x2 + 7) : Int32).toNatClampNeg) v5 hv5) oX12_writesLast rfl (zT_mem 1785 (by decide +kernel) rfl) (zT_mem 1787 (by decide +kernel) rfl) (zT_mem 59 (by decide +kernel) rfl) rfl rfl (Nat.le_of_ble_eq_true rfl) ⟨by decide, by decide⟩ (by decide +kernel) (fun hm hW hFr2 => ?_)
    replace hFr := hFr.tr hFr2; clear hFr2
    refine zV_eq (st2 := []) rfl rfl rfl rfl ?_
    refine zV_blk (pc' := 166) (lo' := [(0, .ref am), (2, .int x2), (3, .int s.1)]) (st' := [.ref am]) [.aload_n 0] (by decide +kernel) rfl ?_
    refine zV_ldc2 (idx := 169) (v := 674469) (zT_mem 1651 (by decide +kernel) rfl) (by decide +kernel) ?_
    refine zV_blk (pc' := 170) (lo' := [(0, .ref am), (2, .int x2), (3, .int s.1)]) (st' := [.ref am, .long 674469, .ref am]) [.aload_n 0] (by decide +kernel) rfl ?_
    refine m_get (idx := 18) (k := 12) (v := .ref a2) hW m_in12 (by decide) (zT_mem 1452 (by decide +kernel) rfl) rfl (by decide +kernel) ?_
    refine zV_blk (pc' := 177) (lo' := [(0, .ref am), (2, .int x2), (3, .int s.1)]) (st' := [.int (x2 + 12), .ref a2, .long 674469, .ref am]) [.iload_n 2, .bipush 12, .iadd] (by decide +kernel) rfl ?_
    obtain ⟨hz, h⟩ := zck_some h
    refine m_wld hW hz (by decide +kernel) ?_
    obtain ⟨v6, hv6, h⟩ := zbind h
    refine m_cC (idx := 311) (rest := []) hW (cmwritesTold s0 D cB cI cJ cD am a1 a2 a3 v5.1 G tp w v5.2 n 674469 (w ((x2 + 12) : Int32).toNatClampNeg) v6 hv6) oX12_writesTold rfl (zT_mem 1801 (by decide +kernel) rfl) (zT_mem 1803 (by decide +kernel) rfl) (zT_mem 63 (by decide +kernel) rfl) rfl rfl (Nat.le_of_ble_eq_true rfl) ⟨by decide, by decide⟩ (by decide +kernel) (fun hm hW hFr2 => ?_)
    replace hFr := hFr.tr hFr2; clear hFr2
    refine zV_eq (st2 := []) rfl rfl rfl rfl ?_
    refine zV_blk (pc' := 182) (lo' := [(0, .ref am), (2, .int x2), (3, .int s.1)]) (st' := [.ref am]) [.aload_n 0] (by decide +kernel) rfl ?_
    refine zV_ldc2 (idx := 171) (v := 1476) (zT_mem 1656 (by decide +kernel) rfl) (by decide +kernel) ?_
    refine zV_blk (pc' := 186) (lo' := [(0, .ref am), (2, .int x2), (3, .int s.1)]) (st' := [.ref am, .long 1476, .ref am]) [.aload_n 0] (by decide +kernel) rfl ?_
    refine m_get (idx := 18) (k := 12) (v := .ref a2) hW m_in12 (by decide) (zT_mem 1452 (by decide +kernel) rfl) rfl (by decide +kernel) ?_
    refine zV_blk (pc' := 193) (lo' := [(0, .ref am), (2, .int x2), (3, .int s.1)]) (st' := [.int (x2 + 13), .ref a2, .long 1476, .ref am]) [.iload_n 2, .bipush 13, .iadd] (by decide +kernel) rfl ?_
    obtain ⟨hz, h⟩ := zck_some h
    refine m_wld hW hz (by decide +kernel) ?_
    obtain ⟨v7, hv7, h⟩ := zbind h
    refine m_cC (idx := 311) (rest := []) hW (cmwritesTold s0 D cB cI cJ cD am a1 a2 a3 v6.1 G tp w v6.2 n 1476 (w ((x2 + 13) : Int32).toNatClampNeg) v7 hv7) oX12_writesTold rfl (zT_mem 1801 (by decide +kernel) rfl) (zT_mem 1803 (by decide +kernel) rfl) (zT_mem 63 (by decide +kernel) rfl) rfl rfl (Nat.le_of_ble_eq_true rfl) ⟨by decide, by decide⟩ (by decide +kernel) (fun hm hW hFr2 => ?_)
    replace hFr := hFr.tr hFr2; clear hFr2
    refine zV_eq (st2 := []) rfl rfl rfl rfl ?_
    refine zV_blk (pc' := 198) (lo' := [(0, .ref am), (2, .int x2), (3, .int s.1)]) (st' := [.ref am]) [.aload_n 0] (by decide +kernel) rfl ?_
    refine zV_ldc2 (idx := 129) (v := 486) (zT_mem 1617 (by decide +kernel) rfl) (by decide +kernel) ?_
    obtain ⟨v8, hv8, h⟩ := zbind h
    refine m_cC (idx := 305) (rest := []) hW (cmwritesWord s0 D cB cI cJ cD am a1 a2 a3 v7.1 G tp w v7.2 n 486 v8 hv8) oX12_writesWord rfl (zT_mem 1776 (by decide +kernel) rfl) (zT_mem 1778 (by decide +kernel) rfl) (zT_mem 57 (by decide +kernel) rfl) rfl rfl (Nat.le_of_ble_eq_true rfl) ⟨by decide, by decide⟩ (by decide +kernel) (fun hm hW hFr2 => ?_)
    replace hFr := hFr.tr hFr2; clear hFr2
    refine zV_eq (st2 := []) rfl rfl rfl rfl ?_
    refine zV_blk (pc' := 206) (lo' := [(0, .ref am), (2, .int x2), (3, .int s.1)]) (st' := [.ref am, .ref am]) [.aload_n 0, .aload_n 0] (by decide +kernel) rfl ?_
    refine m_get (idx := 18) (k := 12) (v := .ref a2) hW m_in12 (by decide) (zT_mem 1452 (by decide +kernel) rfl) rfl (by decide +kernel) ?_
    refine zV_blk (pc' := 213) (lo' := [(0, .ref am), (2, .int x2), (3, .int s.1)]) (st' := [.int (x2 + 14), .ref a2, .ref am]) [.iload_n 2, .bipush 14, .iadd] (by decide +kernel) rfl ?_
    obtain ⟨hz, h⟩ := zck_some h
    refine m_wld hW hz (by decide +kernel) ?_
    obtain ⟨v9, hv9, h⟩ := zbind h
    refine m_cC (idx := 315) (rest := []) hW (cmwritesLast s0 D cB cI cJ cD am a1 a2 a3 v8.1 G tp w v8.2 n (w ((x2 + 14) : Int32).toNatClampNeg) v9 hv9) oX12_writesLast rfl (zT_mem 1785 (by decide +kernel) rfl) (zT_mem 1787 (by decide +kernel) rfl) (zT_mem 59 (by decide +kernel) rfl) rfl rfl (Nat.le_of_ble_eq_true rfl) ⟨by decide, by decide⟩ (by decide +kernel) (fun hm hW hFr2 => ?_)
    replace hFr := hFr.tr hFr2; clear hFr2
    refine zV_eq (st2 := []) rfl rfl rfl rfl ?_
    refine zV_blk (pc' := 218) (lo' := [(0, .ref am), (2, .int x2), (3, .int s.1)]) (st' := [.ref am]) [.aload_n 0] (by decide +kernel) rfl ?_
    refine zV_ldc2 (idx := 174) (v := 72590803) (zT_mem 1658 (by decide +kernel) rfl) (by decide +kernel) ?_
    refine zV_blk (pc' := 222) (lo' := [(0, .ref am), (2, .int x2), (3, .int s.1)]) (st' := [.ref am, .long 72590803, .ref am]) [.aload_n 0] (by decide +kernel) rfl ?_
    refine m_get (idx := 18) (k := 12) (v := .ref a2) hW m_in12 (by decide) (zT_mem 1452 (by decide +kernel) rfl) rfl (by decide +kernel) ?_
    refine zV_blk (pc' := 229) (lo' := [(0, .ref am), (2, .int x2), (3, .int s.1)]) (st' := [.int (x2 + 15), .ref a2, .long 72590803, .ref am]) [.iload_n 2, .bipush 15, .iadd] (by decide +kernel) rfl ?_
    obtain ⟨hz, h⟩ := zck_some h
    refine m_wld hW hz (by decide +kernel) ?_
    obtain ⟨v10, hv10, h⟩ := zbind h
    refine m_cC (idx := 311) (rest := []) hW (cmwritesTold s0 D cB cI cJ cD am a1 a2 a3 v9.1 G tp w v9.2 n 72590803 (w ((x2 + 15) : Int32).toNatClampNeg) v10 hv10) oX12_writesTold rfl (zT_mem 1801 (by decide +kernel) rfl) (zT_mem 1803 (by decide +kernel) rfl) (zT_mem 63 (by decide +kernel) rfl) rfl rfl (Nat.le_of_ble_eq_true rfl) ⟨by decide, by decide⟩ (by decide +kernel) (fun hm hW hFr2 => ?_)
    replace hFr := hFr.tr hFr2; clear hFr2
    refine zV_eq (st2 := []) rfl rfl rfl rfl ?_
    refine zV_blk (pc' := 234) (lo' := [(0, .ref am), (2, .int x2), (3, .int s.1)]) (st' := [.ref am]) [.aload_n 0] (by decide +kernel) rfl ?_
    refine zV_ldc2 (idx := 129) (v := 486) (zT_mem 1617 (by decide +kernel) rfl) (by decide +kernel) ?_
    obtain ⟨v11, hv11, h⟩ := zbind h
    refine m_cC (idx := 305) (rest := []) hW (cmwritesWord s0 D cB cI cJ cD am a1 a2 a3 v10.1 G tp w v10.2 n 486 v11 hv11) oX12_writesWord rfl (zT_mem 1776 (by decide +kernel) rfl) (zT_mem 1778 (by decide +kernel) rfl) (zT_mem 57 (by decide +kernel) rfl) rfl rfl (Nat.le_of_ble_eq_true rfl) ⟨by decide, by decide⟩ (by decide +kernel) (fun hm hW hFr2 => ?_)
    replace hFr := hFr.tr hFr2; clear hFr2
    refine zV_eq (st2 := []) rfl rfl rfl rfl ?_
    refine zV_blk (pc' := 242) (lo' := [(0, .ref am), (2, .int x2), (3, .int s.1)]) (st' := [.ref am, .ref am]) [.aload_n 0, .aload_n 0] (by decide +kernel) rfl ?_
    refine m_get (idx := 18) (k := 12) (v := .ref a2) hW m_in12 (by decide) (zT_mem 1452 (by decide +kernel) rfl) rfl (by decide +kernel) ?_
    refine zV_blk (pc' := 249) (lo' := [(0, .ref am), (2, .int x2), (3, .int s.1)]) (st' := [.int (x2 + 16), .ref a2, .ref am]) [.iload_n 2, .bipush 16, .iadd] (by decide +kernel) rfl ?_
    obtain ⟨hz, h⟩ := zck_some h
    refine m_wld hW hz (by decide +kernel) ?_
    obtain ⟨v12, hv12, h⟩ := zbind h
    refine m_cC (idx := 315) (rest := []) hW (cmwritesLast s0 D cB cI cJ cD am a1 a2 a3 v11.1 G tp w v11.2 n (w ((x2 + 16) : Int32).toNatClampNeg) v12 hv12) oX12_writesLast rfl (zT_mem 1785 (by decide +kernel) rfl) (zT_mem 1787 (by decide +kernel) rfl) (zT_mem 59 (by decide +kernel) rfl) rfl rfl (Nat.le_of_ble_eq_true rfl) ⟨by decide, by decide⟩ (by decide +kernel) (fun hm hW hFr2 => ?_)
    replace hFr := hFr.tr hFr2; clear hFr2
    refine zV_eq (st2 := []) rfl rfl rfl rfl ?_
    refine zV_blk (pc' := 254) (lo' := [(0, .ref am), (2, .int x2), (3, .int s.1)]) (st' := [.ref am]) [.aload_n 0] (by decide +kernel) rfl ?_
    refine m_get (idx := 294) (k := 16) (v := .int (v12.1 16)) hW m_in12 (by decide) (zT_mem 1456 (by decide +kernel) rfl) rfl (by decide +kernel) ?_
    obtain rfl := Option.some.inj h
    exact zV_iret rfl (by decide +kernel) (hQ _ rfl hm hW hFr)
  · replace h := zif_neg q h
    clear q
    refine zV_blk (pc' := 91) (lo' := [(0, .ref am), (2, .int x2), (3, .int s.1)]) (st' := [.ref am, .ref am]) [.aload_n 0, .aload_n 0] (by decide +kernel) rfl ?_
    refine m_get (idx := 18) (k := 12) (v := .ref a2) hW m_in12 (by decide) (zT_mem 1452 (by decide +kernel) rfl) rfl (by decide +kernel) ?_
    refine zV_blk (pc' := 100) (lo' := [(0, .ref am), (2, .int x2), (3, .int s.1)]) (st' := [.int ((x2 + 24) + s.1), .ref a2, .ref am]) [.iload_n 2, .bipush 24, .iadd, .iload_n 3, .iadd] (by decide +kernel) rfl ?_
    obtain ⟨hz, h⟩ := zck_some h
    refine m_wld hW hz (by decide +kernel) ?_
    obtain ⟨v13, hv13, h⟩ := zbind h
    refine m_cC (idx := 308) (rest := []) hW (cmwrites s0 D cB cI cJ cD am a1 a2 a3 s.2.1 G tp w s.2.2 n (w (((x2 + 24) + s.1) : Int32).toNatClampNeg) v13 hv13) oX12_writes rfl (zT_mem 1789 (by decide +kernel) rfl) (zT_mem 1791 (by decide +kernel) rfl) (zT_mem 60 (by decide +kernel) rfl) rfl rfl (Nat.le_of_ble_eq_true rfl) ⟨by decide, by decide⟩ (by decide +kernel) (fun hm hW hFr2 => ?_)
    replace hFr := hFr.tr hFr2; clear hFr2
    refine zV_eq (st2 := []) rfl rfl rfl rfl ?_
    refine zV_blk (pc' := 107) (lo' := [(3, .int (s.1 + 1)), (0, .ref am), (2, .int x2)]) (st' := []) [.iinc 3 1] (by decide +kernel) rfl ?_
    refine zV_goto (tgt := 77) (off := -30) (by decide +kernel) (by decide) ?_
    obtain rfl := Option.some.inj h
    refine zV_pick (lo2 := [(0, .ref am), (2, .int x2), (3, .int (s.1 + 1))]) [1, 2, 0] rfl ?_
    exact hL77 _ rfl hm hW hFr
theorem cmwrite_77L (s0 : State) (D : va_G) (cB cI cJ cD : ClassId) (am a1 a2 a3 : Nat) (G : Nat → Int64) (tp : Nat → Int32) (w : Nat → Int32) (n : Nat) (x2 : Int32) : ∀ (k : Nat) (s : Int32 × (Nat → Int32) × (Nat → Int32)) {hi hm : zHp} {nx : Nat} {Q : Option Value → zHp → zHp → Nat → Prop} {hm0 : zHp} (_ : mW cB cI am a1 a2 a3 s.2.1 G tp w s.2.2 hm) (_ : mFr am a1 a2 a3 hm0 hm) {x : Int32 × (Nat → Int32) × (Nat → Int32)} (_ : zloop (mwrite_77 n w x2) k s = some x) (hQ : ∀ r : Int32 × (Nat → Int32) × (Nat → Int32), x = r → ∀ hm', mW cB cI am a1 a2 a3 r.2.1 G tp w r.2.2 hm' → mFr am a1 a2 a3 hm0 hm' → Q (some (.int r.1)) hi hm' nx), zV s0 D (zty cB cI cJ cD) yX12_write cX12_write 4 (some .int) 5 109 0 0 77 [(0, .ref am), (2, .int x2), (3, .int s.1)] [] hi hm nx Q
  | 0, s, _, _, _, _, _, hW, hFr, _, h, _ => by cases h
  | k + 1, s, hi, hm, nx, Q, hm0, hW, hFr, x, h, hQ => by
    obtain ⟨z, hz, h1, h2⟩ := zloop_succ h
    exact cmwrite_77 s0 D cB cI cJ cD am a1 a2 a3 G tp w n x2 s z hW hFr hz (fun s' hs hm' hW' hFr' => cmwrite_77L s0 D cB cI cJ cD am a1 a2 a3 G tp w n x2 k s' hW' hFr' (h1 s' hs) hQ) (fun r hr hm' hW' hFr' => hQ r (h2 _ hr).symm hm' hW' hFr')
def mwrite (n : Nat) (F : Nat → Int32) (w : Nat → Int32) (oc : Nat → Int32) (x1 : Int32) : Option (Int32 × (Nat → Int32) × (Nat → Int32)) := (misThere w x1).bind (fun v1 => (if v1 = true then (mbank x1).bind (fun v2 => (mwritesWord n (upd (upd F 0 0) 16 0) oc 824370).bind (fun v3 => zck (zin ((v2 + 1)) 35802) ((mwritesLast n v3.1 v3.2 (w ((v2 + 1) : Int32).toNatClampNeg)).bind (fun v4 => (mwritesWord n v4.1 v4.2 6050369).bind (fun v5 => zck (zin ((v2 + 2)) 35802) ((mwritesLast n v5.1 v5.2 (w ((v2 + 2) : Int32).toNatClampNeg)).bind (fun v6 => (mwritesLaw n v6.1 w v6.2 v2).bind (fun v7 => (mwritesWord n v7.1 v7.2 452415763).bind (fun v8 => (zloop (mwrite_77 n w v2) n (0, v8.1, v8.2))))))))))) else some ((-1), (upd F 0 0), oc)))
theorem oX12_write : zO yX12_write cX12_write 4 (some .int) 1 := ⟨zT_mem 1775 (by decide +kernel) rfl, zT_mem 94 (by decide +kernel) rfl, by decide +kernel, by decide +kernel, by decide +kernel⟩
set_option maxHeartbeats 4000000 in
set_option maxRecDepth 100000 in
theorem cmwrite (s0 : State) (D : va_G) (cB cI cJ cD : ClassId) (am a1 a2 a3 : Nat) (F : Nat → Int32) (G : Nat → Int64) (tp w oc : Nat → Int32) (n : Nat) (x1 : Int32) (x : Int32 × (Nat → Int32) × (Nat → Int32)) (h : mwrite n F w oc x1 = some x) : mC s0 D cB cI cJ cD am a1 a2 a3 yX12_write cX12_write 4 (some .int) 5 109 [.int x1] F G tp w oc (some (.int x.1)) x.2.1 G tp w x.2.2 := by
  intro hi hm nx Q hW hQ0
  have hQ : ∀ r : Int32 × (Nat → Int32) × (Nat → Int32), x = r → ∀ hm', mW cB cI am a1 a2 a3 r.2.1 G tp w r.2.2 hm' → mFr am a1 a2 a3 hm hm' → Q (some (.int r.1)) hi hm' nx := fun r hr => by subst hr; exact hQ0
  have hFr : mFr am a1 a2 a3 hm hm := mFr.rf
  clear hQ0
  refine zM_of (by decide +kernel) (Nat.le_of_ble_eq_true rfl) ?_
  unfold mwrite at h
  refine zV_eq (lo2 := [(0, .ref am), (1, .int x1)]) rfl rfl rfl rfl ?_
  refine zV_blk (pc' := 2) (lo' := [(0, .ref am), (1, .int x1)]) (st' := [.int 0, .ref am]) [.aload_n 0, .iconst 0] (by decide +kernel) rfl ?_
  refine m_put (idx := 25) (k := 0) (v := .int 0) (F' := (upd F 0 0)) (G' := G) hW m_in12 (by decide) (zT_mem 1440 (by decide +kernel) rfl) rfl rfl rfl rfl (by decide +kernel) (fun hm hW hFr2 => ?_)
  replace hFr := hFr.tr hFr2; clear hFr2
  refine zV_blk (pc' := 7) (lo' := [(0, .ref am), (1, .int x1)]) (st' := [.int x1, .ref am]) [.aload_n 0, .iload_n 1] (by decide +kernel) rfl ?_
  obtain ⟨v1, hv1, h⟩ := zbind h
  refine m_cR (idx := 273) (rest := []) hW (cmisThere s0 D cB cI cJ cD am a1 a2 a3 (upd F 0 0) G tp w oc x1 v1 hv1) oX12_isThere rfl (zT_mem 1686 (by decide +kernel) rfl) (zT_mem 1688 (by decide +kernel) rfl) (zT_mem 49 (by decide +kernel) rfl) rfl rfl (Nat.le_of_ble_eq_true rfl) ⟨by decide, by decide⟩ (by decide +kernel) ?_
  refine zV_eq (st2 := [.int (zb v1)]) rfl rfl rfl rfl ?_
  refine zV_bif_ne (tgt := 15) (off := 5) (by decide +kernel) (by decide) (fun q => ?_) (fun q => ?_)
  · replace h := zif_pos q h
    clear q
    refine zV_blk (pc' := 16) (lo' := [(0, .ref am), (1, .int x1)]) (st' := [.int x1]) [.iload_n 1] (by decide +kernel) rfl ?_
    obtain ⟨v2, hv2, h⟩ := zbind h
    refine zV_sC (idx := 118) (rest := []) (cmbank s0 D cB cI cJ cD x1 v2 hv2) oX12_bank (zT_mem 1671 (by decide +kernel) rfl) (zT_mem 1672 (by decide +kernel) rfl) rfl rfl (Nat.le_of_ble_eq_true rfl) ⟨by decide, by decide⟩ (by decide +kernel) ?_
    refine zV_eq (st2 := [.int v2]) rfl rfl rfl rfl ?_
    refine zV_blk (pc' := 22) (lo' := [(2, .int v2), (0, .ref am), (1, .int x1)]) (st' := [.int 0, .ref am]) [.istore_n 2, .aload_n 0, .iconst 0] (by decide +kernel) rfl ?_
    refine m_put (idx := 294) (k := 16) (v := .int 0) (F' := (upd (upd F 0 0) 16 0)) (G' := G) hW m_in12 (by decide) (zT_mem 1456 (by decide +kernel) rfl) rfl rfl rfl rfl (by decide +kernel) (fun hm hW hFr2 => ?_)
    replace hFr := hFr.tr hFr2; clear hFr2
    refine zV_blk (pc' := 26) (lo' := [(2, .int v2), (0, .ref am), (1, .int x1)]) (st' := [.ref am]) [.aload_n 0] (by decide +kernel) rfl ?_
    refine zV_ldc2 (idx := 176) (v := 824370) (zT_mem 1559 (by decide +kernel) rfl) (by decide +kernel) ?_
    obtain ⟨v3, hv3, h⟩ := zbind h
    refine m_cC (idx := 305) (rest := []) hW (cmwritesWord s0 D cB cI cJ cD am a1 a2 a3 (upd (upd F 0 0) 16 0) G tp w oc n 824370 v3 hv3) oX12_writesWord rfl (zT_mem 1776 (by decide +kernel) rfl) (zT_mem 1778 (by decide +kernel) rfl) (zT_mem 57 (by decide +kernel) rfl) rfl rfl (Nat.le_of_ble_eq_true rfl) ⟨by decide, by decide⟩ (by decide +kernel) (fun hm hW hFr2 => ?_)
    replace hFr := hFr.tr hFr2; clear hFr2
    refine zV_eq (st2 := []) rfl rfl rfl rfl ?_
    refine zV_blk (pc' := 34) (lo' := [(2, .int v2), (0, .ref am), (1, .int x1)]) (st' := [.ref am, .ref am]) [.aload_n 0, .aload_n 0] (by decide +kernel) rfl ?_
    refine m_get (idx := 18) (k := 12) (v := .ref a2) hW m_in12 (by decide) (zT_mem 1452 (by decide +kernel) rfl) rfl (by decide +kernel) ?_
    refine zV_blk (pc' := 40) (lo' := [(2, .int v2), (0, .ref am), (1, .int x1)]) (st' := [.int (v2 + 1), .ref a2, .ref am]) [.iload_n 2, .iconst 1, .iadd] (by decide +kernel) rfl ?_
    obtain ⟨hz, h⟩ := zck_some h
    refine m_wld hW hz (by decide +kernel) ?_
    obtain ⟨v4, hv4, h⟩ := zbind h
    refine m_cC (idx := 315) (rest := []) hW (cmwritesLast s0 D cB cI cJ cD am a1 a2 a3 v3.1 G tp w v3.2 n (w ((v2 + 1) : Int32).toNatClampNeg) v4 hv4) oX12_writesLast rfl (zT_mem 1785 (by decide +kernel) rfl) (zT_mem 1787 (by decide +kernel) rfl) (zT_mem 59 (by decide +kernel) rfl) rfl rfl (Nat.le_of_ble_eq_true rfl) ⟨by decide, by decide⟩ (by decide +kernel) (fun hm hW hFr2 => ?_)
    replace hFr := hFr.tr hFr2; clear hFr2
    refine zV_eq (st2 := []) rfl rfl rfl rfl ?_
    refine zV_blk (pc' := 45) (lo' := [(2, .int v2), (0, .ref am), (1, .int x1)]) (st' := [.ref am]) [.aload_n 0] (by decide +kernel) rfl ?_
    refine zV_ldc2 (idx := 182) (v := 6050369) (zT_mem 1607 (by decide +kernel) rfl) (by decide +kernel) ?_
    obtain ⟨v5, hv5, h⟩ := zbind h
    refine m_cC (idx := 305) (rest := []) hW (cmwritesWord s0 D cB cI cJ cD am a1 a2 a3 v4.1 G tp w v4.2 n 6050369 v5 hv5) oX12_writesWord rfl (zT_mem 1776 (by decide +kernel) rfl) (zT_mem 1778 (by decide +kernel) rfl) (zT_mem 57 (by decide +kernel) rfl) rfl rfl (Nat.le_of_ble_eq_true rfl) ⟨by decide, by decide⟩ (by decide +kernel) (fun hm hW hFr2 => ?_)
    replace hFr := hFr.tr hFr2; clear hFr2
    refine zV_eq (st2 := []) rfl rfl rfl rfl ?_
    refine zV_blk (pc' := 53) (lo' := [(2, .int v2), (0, .ref am), (1, .int x1)]) (st' := [.ref am, .ref am]) [.aload_n 0, .aload_n 0] (by decide +kernel) rfl ?_
    refine m_get (idx := 18) (k := 12) (v := .ref a2) hW m_in12 (by decide) (zT_mem 1452 (by decide +kernel) rfl) rfl (by decide +kernel) ?_
    refine zV_blk (pc' := 59) (lo' := [(2, .int v2), (0, .ref am), (1, .int x1)]) (st' := [.int (v2 + 2), .ref a2, .ref am]) [.iload_n 2, .iconst 2, .iadd] (by decide +kernel) rfl ?_
    obtain ⟨hz, h⟩ := zck_some h
    refine m_wld hW hz (by decide +kernel) ?_
    obtain ⟨v6, hv6, h⟩ := zbind h
    refine m_cC (idx := 315) (rest := []) hW (cmwritesLast s0 D cB cI cJ cD am a1 a2 a3 v5.1 G tp w v5.2 n (w ((v2 + 2) : Int32).toNatClampNeg) v6 hv6) oX12_writesLast rfl (zT_mem 1785 (by decide +kernel) rfl) (zT_mem 1787 (by decide +kernel) rfl) (zT_mem 59 (by decide +kernel) rfl) rfl rfl (Nat.le_of_ble_eq_true rfl) ⟨by decide, by decide⟩ (by decide +kernel) (fun hm hW hFr2 => ?_)
    replace hFr := hFr.tr hFr2; clear hFr2
    refine zV_eq (st2 := []) rfl rfl rfl rfl ?_
    refine zV_blk (pc' := 65) (lo' := [(2, .int v2), (0, .ref am), (1, .int x1)]) (st' := [.int v2, .ref am]) [.aload_n 0, .iload_n 2] (by decide +kernel) rfl ?_
    obtain ⟨v7, hv7, h⟩ := zbind h
    refine m_cC (idx := 318) (rest := []) hW (cmwritesLaw s0 D cB cI cJ cD am a1 a2 a3 v6.1 G tp w v6.2 n v2 v7 hv7) oX12_writesLaw rfl (zT_mem 1797 (by decide +kernel) rfl) (zT_mem 1799 (by decide +kernel) rfl) (zT_mem 62 (by decide +kernel) rfl) rfl rfl (Nat.le_of_ble_eq_true rfl) ⟨by decide, by decide⟩ (by decide +kernel) (fun hm hW hFr2 => ?_)
    replace hFr := hFr.tr hFr2; clear hFr2
    refine zV_eq (st2 := []) rfl rfl rfl rfl ?_
    refine zV_blk (pc' := 69) (lo' := [(2, .int v2), (0, .ref am), (1, .int x1)]) (st' := [.ref am]) [.aload_n 0] (by decide +kernel) rfl ?_
    refine zV_ldc2 (idx := 161) (v := 452415763) (zT_mem 1639 (by decide +kernel) rfl) (by decide +kernel) ?_
    obtain ⟨v8, hv8, h⟩ := zbind h
    refine m_cC (idx := 305) (rest := []) hW (cmwritesWord s0 D cB cI cJ cD am a1 a2 a3 v7.1 G tp w v7.2 n 452415763 v8 hv8) oX12_writesWord rfl (zT_mem 1776 (by decide +kernel) rfl) (zT_mem 1778 (by decide +kernel) rfl) (zT_mem 57 (by decide +kernel) rfl) rfl rfl (Nat.le_of_ble_eq_true rfl) ⟨by decide, by decide⟩ (by decide +kernel) (fun hm hW hFr2 => ?_)
    replace hFr := hFr.tr hFr2; clear hFr2
    refine zV_eq (st2 := []) rfl rfl rfl rfl ?_
    refine zV_blk (pc' := 77) (lo' := [(3, .int 0), (2, .int v2), (0, .ref am), (1, .int x1)]) (st' := []) [.iconst 0, .istore_n 3] (by decide +kernel) rfl ?_
    refine zV_pick (lo2 := [(0, .ref am), (2, .int v2), (3, .int 0)]) [2, 1, 0] rfl ?_
    exact cmwrite_77L s0 D cB cI cJ cD am a1 a2 a3 G tp w n v2 n (0, v8.1, v8.2) hW hFr h hQ
  · replace h := zif_neg q h
    clear q
    refine zV_blk (pc' := 14) (lo' := [(0, .ref am), (1, .int x1)]) (st' := [.int (-1)]) [.iconst (-1)] (by decide +kernel) rfl ?_
    obtain rfl := Option.some.inj h
    exact zV_iret rfl (by decide +kernel) (hQ _ rfl hm hW hFr)

