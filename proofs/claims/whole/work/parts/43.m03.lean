def mreads_76 (n : Nat) (F : Nat → Int32) (tp : Nat → Int32) (x1 : Int32) (x2 : Int32) (x3 : Int32) (x4 : Int32) (s : Int32 × Int32) : Option ((Int32 × Int32) ⊕ (Int32 × (Nat → Int32))) := (if (x4 : Int32) ≤ (s.2 : Int32) then (misIn (s.1 : Int32).toInt64 (x1 : Int32).toInt64 (x2 : Int32).toInt64).bind (fun v1 => (if v1 = true then some (.inr (s.1, (upd (upd F 4 (x3 + x4)) 5 ((upd F 4 (x3 + x4)) 4)))) else (mfail (upd (upd F 4 (x3 + x4)) 5 ((upd F 4 (x3 + x4)) 4)) 2 x3).bind (fun v2 => some (.inr (s.1, v2))))) else zck (zin ((x3 + s.2)) 800) (some (.inl ((((10 * s.1) + (tp ((x3 + s.2) : Int32).toNatClampNeg)) - 48), (s.2 + 1)))))
set_option maxHeartbeats 4000000 in
set_option maxRecDepth 100000 in
theorem cmreads_76 (s0 : State) (D : va_G) (cB cI cJ cD : ClassId) (am a1 a2 a3 : Nat) (F : Nat → Int32) (G : Nat → Int64) (tp : Nat → Int32) (w : Nat → Int32) (oc : Nat → Int32) (n : Nat) (x1 : Int32) (x2 : Int32) (x3 : Int32) (x4 : Int32) (s : Int32 × Int32) (x : (Int32 × Int32) ⊕ (Int32 × (Nat → Int32))) {hi hm : zHp} {nx : Nat} {Q : Option Value → zHp → zHp → Nat → Prop} {hm0 : zHp} (hW : mW cB cI am a1 a2 a3 F G tp w oc hm) (hFr : mFr am a1 a2 a3 hm0 hm) (h : mreads_76 n F tp x1 x2 x3 x4 s = some x) (hL76 : ∀ s : Int32 × Int32, x = (.inl s) → ∀ hm', mW cB cI am a1 a2 a3 F G tp w oc hm' → mFr am a1 a2 a3 hm0 hm' → zV s0 D (zty cB cI cJ cD) yX12_reads cX12_reads 7 (some .int) 2 46 0 0 76 [(0, .ref am), (1, .int x1), (2, .int x2), (3, .int x3), (4, .int x4), (5, .int s.1), (6, .int s.2)] [] hi hm' nx Q) (hQ : ∀ r : Int32 × (Nat → Int32), x = (.inr r) → ∀ hm', mW cB cI am a1 a2 a3 r.2 G tp w oc hm' → mFr am a1 a2 a3 hm0 hm' → Q (some (.int r.1)) hi hm' nx) : zV s0 D (zty cB cI cJ cD) yX12_reads cX12_reads 7 (some .int) 2 46 0 0 76 [(0, .ref am), (1, .int x1), (2, .int x2), (3, .int x3), (4, .int x4), (5, .int s.1), (6, .int s.2)] [] hi hm nx Q := by
  unfold mreads_76 at h
  refine zV_blk (pc' := 80) (lo' := [(0, .ref am), (1, .int x1), (2, .int x2), (3, .int x3), (4, .int x4), (5, .int s.1), (6, .int s.2)]) (st' := [.int x4, .int s.2]) [.iload 6, .iload 4] (by decide +kernel) rfl ?_
  refine zV_icmp_ge (tgt := 109) (off := 29) (by decide +kernel) (by decide) (fun q => ?_) (fun q => ?_)
  · replace h := zif_pos q h
    clear q
    refine zV_blk (pc' := 114) (lo' := [(0, .ref am), (1, .int x1), (2, .int x2), (3, .int x3), (4, .int x4), (5, .int s.1), (6, .int s.2)]) (st' := [.int (x3 + x4), .ref am]) [.aload_n 0, .iload_n 3, .iload 4, .iadd] (by decide +kernel) rfl ?_
    refine m_put (idx := 55) (k := 4) (v := .int (x3 + x4)) (F' := (upd F 4 (x3 + x4))) (G' := G) hW m_in12 (by decide) (zT_mem 1444 (by decide +kernel) rfl) rfl rfl rfl rfl (by decide +kernel) (fun hm hW hFr2 => ?_)
    replace hFr := hFr.tr hFr2; clear hFr2
    refine zV_blk (pc' := 119) (lo' := [(0, .ref am), (1, .int x1), (2, .int x2), (3, .int x3), (4, .int x4), (5, .int s.1), (6, .int s.2)]) (st' := [.ref am, .ref am]) [.aload_n 0, .aload_n 0] (by decide +kernel) rfl ?_
    refine m_get (idx := 55) (k := 4) (v := .int ((upd F 4 (x3 + x4)) 4)) hW m_in12 (by decide) (zT_mem 1444 (by decide +kernel) rfl) rfl (by decide +kernel) ?_
    refine m_put (idx := 58) (k := 5) (v := .int ((upd F 4 (x3 + x4)) 4)) (F' := (upd (upd F 4 (x3 + x4)) 5 ((upd F 4 (x3 + x4)) 4))) (G' := G) hW m_in12 (by decide) (zT_mem 1445 (by decide +kernel) rfl) rfl rfl rfl rfl (by decide +kernel) (fun hm hW hFr2 => ?_)
    replace hFr := hFr.tr hFr2; clear hFr2
    refine zV_blk (pc' := 132) (lo' := [(0, .ref am), (1, .int x1), (2, .int x2), (3, .int x3), (4, .int x4), (5, .int s.1), (6, .int s.2)]) (st' := [.long (x2 : Int32).toInt64, .long (x1 : Int32).toInt64, .long (s.1 : Int32).toInt64]) [.iload 5, .i2l, .iload_n 1, .i2l, .iload_n 2, .i2l] (by decide +kernel) rfl ?_
    obtain ⟨v1, hv1, h⟩ := zbind h
    refine zV_sC (idx := 36) (rest := []) (cmisIn s0 D cB cI cJ cD (s.1 : Int32).toInt64 (x1 : Int32).toInt64 (x2 : Int32).toInt64 v1 hv1) oX12_isIn (zT_mem 1531 (by decide +kernel) rfl) (zT_mem 1532 (by decide +kernel) rfl) rfl rfl (Nat.le_of_ble_eq_true rfl) ⟨by decide, by decide⟩ (by decide +kernel) ?_
    refine zV_eq (st2 := [.int (zb v1)]) rfl rfl rfl rfl ?_
    refine zV_bif_ne (tgt := 144) (off := 9) (by decide +kernel) (by decide) (fun q => ?_) (fun q => ?_)
    · replace h := zif_pos q h
      clear q
      refine zV_blk (pc' := 146) (lo' := [(0, .ref am), (1, .int x1), (2, .int x2), (3, .int x3), (4, .int x4), (5, .int s.1), (6, .int s.2)]) (st' := [.int s.1]) [.iload 5] (by decide +kernel) rfl ?_
      obtain rfl := Option.some.inj h
      exact zV_iret rfl (by decide +kernel) (hQ _ rfl hm hW hFr)
    · replace h := zif_neg q h
      clear q
      refine zV_blk (pc' := 141) (lo' := [(0, .ref am), (1, .int x1), (2, .int x2), (3, .int x3), (4, .int x4), (5, .int s.1), (6, .int s.2)]) (st' := [.int x3, .int 2, .ref am]) [.aload_n 0, .iconst 2, .iload_n 3] (by decide +kernel) rfl ?_
      obtain ⟨v2, hv2, h⟩ := zbind h
      refine m_cC (idx := 79) (rest := []) hW (cmfail s0 D cB cI cJ cD am a1 a2 a3 (upd (upd F 4 (x3 + x4)) 5 ((upd F 4 (x3 + x4)) 4)) G tp w oc 2 x3 v2 hv2) oX12_fail rfl (zT_mem 1581 (by decide +kernel) rfl) (zT_mem 1583 (by decide +kernel) rfl) (zT_mem 30 (by decide +kernel) rfl) rfl rfl (Nat.le_of_ble_eq_true rfl) ⟨by decide, by decide⟩ (by decide +kernel) (fun hm hW hFr2 => ?_)
      replace hFr := hFr.tr hFr2; clear hFr2
      refine zV_eq (st2 := []) rfl rfl rfl rfl ?_
      refine zV_blk (pc' := 146) (lo' := [(0, .ref am), (1, .int x1), (2, .int x2), (3, .int x3), (4, .int x4), (5, .int s.1), (6, .int s.2)]) (st' := [.int s.1]) [.iload 5] (by decide +kernel) rfl ?_
      obtain rfl := Option.some.inj h
      exact zV_iret rfl (by decide +kernel) (hQ _ rfl hm hW hFr)
  · replace h := zif_neg q h
    clear q
    refine zV_blk (pc' := 89) (lo' := [(0, .ref am), (1, .int x1), (2, .int x2), (3, .int x3), (4, .int x4), (5, .int s.1), (6, .int s.2)]) (st' := [.ref am, .int (10 * s.1)]) [.bipush 10, .iload 5, .imul, .aload_n 0] (by decide +kernel) rfl ?_
    refine m_get (idx := 7) (k := 1) (v := .ref a1) hW m_in12 (by decide) (zT_mem 1441 (by decide +kernel) rfl) rfl (by decide +kernel) ?_
    refine zV_blk (pc' := 96) (lo' := [(0, .ref am), (1, .int x1), (2, .int x2), (3, .int x3), (4, .int x4), (5, .int s.1), (6, .int s.2)]) (st' := [.int (x3 + s.2), .ref a1, .int (10 * s.1)]) [.iload_n 3, .iload 6, .iadd] (by decide +kernel) rfl ?_
    obtain ⟨hz, h⟩ := zck_some h
    refine m_tld hW hz (by decide +kernel) ?_
    refine zV_blk (pc' := 106) (lo' := [(6, .int (s.2 + 1)), (5, .int (((10 * s.1) + (tp ((x3 + s.2) : Int32).toNatClampNeg)) - 48)), (0, .ref am), (1, .int x1), (2, .int x2), (3, .int x3), (4, .int x4)]) (st' := []) [.iadd, .bipush 48, .isub, .istore 5, .iinc 6 1] (by decide +kernel) rfl ?_
    refine zV_goto (tgt := 76) (off := -30) (by decide +kernel) (by decide) ?_
    obtain rfl := Option.some.inj h
    refine zV_pick (lo2 := [(0, .ref am), (1, .int x1), (2, .int x2), (3, .int x3), (4, .int x4), (5, .int (((10 * s.1) + (tp ((x3 + s.2) : Int32).toNatClampNeg)) - 48)), (6, .int (s.2 + 1))]) [2, 3, 4, 5, 6, 1, 0] rfl ?_
    exact hL76 _ rfl hm hW hFr
theorem cmreads_76L (s0 : State) (D : va_G) (cB cI cJ cD : ClassId) (am a1 a2 a3 : Nat) (F : Nat → Int32) (G : Nat → Int64) (tp : Nat → Int32) (w : Nat → Int32) (oc : Nat → Int32) (n : Nat) (x1 : Int32) (x2 : Int32) (x3 : Int32) (x4 : Int32) : ∀ (k : Nat) (s : Int32 × Int32) {hi hm : zHp} {nx : Nat} {Q : Option Value → zHp → zHp → Nat → Prop} {hm0 : zHp} (_ : mW cB cI am a1 a2 a3 F G tp w oc hm) (_ : mFr am a1 a2 a3 hm0 hm) {x : Int32 × (Nat → Int32)} (_ : zloop (mreads_76 n F tp x1 x2 x3 x4) k s = some x) (hQ : ∀ r : Int32 × (Nat → Int32), x = r → ∀ hm', mW cB cI am a1 a2 a3 r.2 G tp w oc hm' → mFr am a1 a2 a3 hm0 hm' → Q (some (.int r.1)) hi hm' nx), zV s0 D (zty cB cI cJ cD) yX12_reads cX12_reads 7 (some .int) 2 46 0 0 76 [(0, .ref am), (1, .int x1), (2, .int x2), (3, .int x3), (4, .int x4), (5, .int s.1), (6, .int s.2)] [] hi hm nx Q
  | 0, s, _, _, _, _, _, hW, hFr, _, h, _ => by cases h
  | k + 1, s, hi, hm, nx, Q, hm0, hW, hFr, x, h, hQ => by
    obtain ⟨z, hz, h1, h2⟩ := zloop_succ h
    exact cmreads_76 s0 D cB cI cJ cD am a1 a2 a3 F G tp w oc n x1 x2 x3 x4 s z hW hFr hz (fun s' hs hm' hW' hFr' => cmreads_76L s0 D cB cI cJ cD am a1 a2 a3 F G tp w oc n x1 x2 x3 x4 k s' hW' hFr' (h1 s' hs) hQ) (fun r hr hm' hW' hFr' => hQ r (h2 _ hr).symm hm' hW' hFr')
def mreads_61 (n : Nat) (F : Nat → Int32) (tp : Nat → Int32) (x1 : Int32) (x2 : Int32) (x3 : Int32) (x4 : Int32) : Option (Int32 × (Nat → Int32)) := (misFine F).bind (fun v1 => (if v1 = true then (zloop (mreads_76 n F tp x1 x2 x3 x4) n (0, 0)) else some (x1, F)))
set_option maxHeartbeats 4000000 in
set_option maxRecDepth 100000 in
theorem cmreads_61 (s0 : State) (D : va_G) (cB cI cJ cD : ClassId) (am a1 a2 a3 : Nat) (F : Nat → Int32) (G : Nat → Int64) (tp w oc : Nat → Int32) (n : Nat) (x1 : Int32) (x2 : Int32) (x3 : Int32) (x4 : Int32) {hi hm : zHp} {nx : Nat} {Q : Option Value → zHp → zHp → Nat → Prop} {hm0 : zHp} {x : Int32 × (Nat → Int32)} (hW : mW cB cI am a1 a2 a3 F G tp w oc hm) (hFr : mFr am a1 a2 a3 hm0 hm) (h : mreads_61 n F tp x1 x2 x3 x4 = some x) (hQ : ∀ r : Int32 × (Nat → Int32), x = r → ∀ hm', mW cB cI am a1 a2 a3 r.2 G tp w oc hm' → mFr am a1 a2 a3 hm0 hm' → Q (some (.int r.1)) hi hm' nx) : zV s0 D (zty cB cI cJ cD) yX12_reads cX12_reads 7 (some .int) 2 46 0 0 61 [(0, .ref am), (1, .int x1), (2, .int x2), (3, .int x3), (4, .int x4)] [] hi hm nx Q := by
  unfold mreads_61 at h
  refine zV_blk (pc' := 62) (lo' := [(0, .ref am), (1, .int x1), (2, .int x2), (3, .int x3), (4, .int x4)]) (st' := [.ref am]) [.aload_n 0] (by decide +kernel) rfl ?_
  obtain ⟨v1, hv1, h⟩ := zbind h
  refine m_cR (idx := 86) (rest := []) hW (cmisFine s0 D cB cI cJ cD am a1 a2 a3 F G tp w oc  v1 hv1) oX12_isFine rfl (zT_mem 1547 (by decide +kernel) rfl) (zT_mem 1549 (by decide +kernel) rfl) (zT_mem 23 (by decide +kernel) rfl) rfl rfl (Nat.le_of_ble_eq_true rfl) ⟨by decide, by decide⟩ (by decide +kernel) ?_
  refine zV_eq (st2 := [.int (zb v1)]) rfl rfl rfl rfl ?_
  refine zV_bif_ne (tgt := 70) (off := 5) (by decide +kernel) (by decide) (fun q => ?_) (fun q => ?_)
  · replace h := zif_pos q h
    clear q
    refine zV_blk (pc' := 76) (lo' := [(6, .int 0), (5, .int 0), (0, .ref am), (1, .int x1), (2, .int x2), (3, .int x3), (4, .int x4)]) (st' := []) [.iconst 0, .istore 5, .iconst 0, .istore 6] (by decide +kernel) rfl ?_
    refine zV_pick (lo2 := [(0, .ref am), (1, .int x1), (2, .int x2), (3, .int x3), (4, .int x4), (5, .int 0), (6, .int 0)]) [2, 3, 4, 5, 6, 1, 0] rfl ?_
    exact cmreads_76L s0 D cB cI cJ cD am a1 a2 a3 F G tp w oc n x1 x2 x3 x4 n (0, 0) hW hFr h hQ
  · replace h := zif_neg q h
    clear q
    refine zV_blk (pc' := 69) (lo' := [(0, .ref am), (1, .int x1), (2, .int x2), (3, .int x3), (4, .int x4)]) (st' := [.int x1]) [.iload_n 1] (by decide +kernel) rfl ?_
    obtain rfl := Option.some.inj h
    exact zV_iret rfl (by decide +kernel) (hQ _ rfl hm hW hFr)
def mreads_57 (n : Nat) (F : Nat → Int32) (tp : Nat → Int32) (x1 : Int32) (x2 : Int32) (x3 : Int32) (x4 : Int32) : Option (Int32 × (Nat → Int32)) := (munlike n F tp).bind (fun v1 => (mreads_61 n v1 tp x1 x2 x3 x4))
set_option maxHeartbeats 4000000 in
set_option maxRecDepth 100000 in
theorem cmreads_57 (s0 : State) (D : va_G) (cB cI cJ cD : ClassId) (am a1 a2 a3 : Nat) (F : Nat → Int32) (G : Nat → Int64) (tp w oc : Nat → Int32) (n : Nat) (x1 : Int32) (x2 : Int32) (x3 : Int32) (x4 : Int32) {hi hm : zHp} {nx : Nat} {Q : Option Value → zHp → zHp → Nat → Prop} {hm0 : zHp} {x : Int32 × (Nat → Int32)} (hW : mW cB cI am a1 a2 a3 F G tp w oc hm) (hFr : mFr am a1 a2 a3 hm0 hm) (h : mreads_57 n F tp x1 x2 x3 x4 = some x) (hQ : ∀ r : Int32 × (Nat → Int32), x = r → ∀ hm', mW cB cI am a1 a2 a3 r.2 G tp w oc hm' → mFr am a1 a2 a3 hm0 hm' → Q (some (.int r.1)) hi hm' nx) : zV s0 D (zty cB cI cJ cD) yX12_reads cX12_reads 7 (some .int) 2 46 0 0 57 [(0, .ref am), (1, .int x1), (2, .int x2), (3, .int x3), (4, .int x4)] [] hi hm nx Q := by
  unfold mreads_57 at h
  refine zV_blk (pc' := 58) (lo' := [(0, .ref am), (1, .int x1), (2, .int x2), (3, .int x3), (4, .int x4)]) (st' := [.ref am]) [.aload_n 0] (by decide +kernel) rfl ?_
  obtain ⟨v1, hv1, h⟩ := zbind h
  refine m_cC (idx := 107) (rest := []) hW (cmunlike s0 D cB cI cJ cD am a1 a2 a3 F G tp w oc n  v1 hv1) oX12_unlike rfl (zT_mem 1589 (by decide +kernel) rfl) (zT_mem 1591 (by decide +kernel) rfl) (zT_mem 32 (by decide +kernel) rfl) rfl rfl (Nat.le_of_ble_eq_true rfl) ⟨by decide, by decide⟩ (by decide +kernel) (fun hm hW hFr2 => ?_)
  replace hFr := hFr.tr hFr2; clear hFr2
  refine zV_eq (st2 := []) rfl rfl rfl rfl ?_
  refine zV_pick (lo2 := [(0, .ref am), (1, .int x1), (2, .int x2), (3, .int x3), (4, .int x4)]) [0, 1, 2, 3, 4] rfl ?_
  exact cmreads_61 s0 D cB cI cJ cD am a1 a2 a3 v1 G tp w oc n x1 x2 x3 x4 hW hFr h hQ
def mreads_13 (n : Nat) (F : Nat → Int32) (tp : Nat → Int32) (x1 : Int32) (x2 : Int32) (x3 : Int32) (s : Int32) : Option ((Int32) ⊕ (Int32 × (Nat → Int32))) := (misDigit F tp (x3 + s)).bind (fun v1 => (if v1 = true then some (.inl (s + 1)) else (misFine F).bind (fun v2 => (if v2 = true then (if (s : Int32) = (0 : Int32) then ((mreads_57 n F tp x1 x2 x3 s).map (fun z => .inr z)) else (if (7 : Int32) < (s : Int32) then ((mreads_57 n F tp x1 x2 x3 s).map (fun z => .inr z)) else (if (x3 : Int32) = ((F 5) : Int32) then ((mreads_57 n F tp x1 x2 x3 s).map (fun z => .inr z)) else ((mreads_61 n F tp x1 x2 x3 s).map (fun z => .inr z))))) else ((mreads_61 n F tp x1 x2 x3 s).map (fun z => .inr z))))))
set_option maxHeartbeats 4000000 in
set_option maxRecDepth 100000 in
theorem cmreads_13 (s0 : State) (D : va_G) (cB cI cJ cD : ClassId) (am a1 a2 a3 : Nat) (F : Nat → Int32) (G : Nat → Int64) (tp : Nat → Int32) (w : Nat → Int32) (oc : Nat → Int32) (n : Nat) (x1 : Int32) (x2 : Int32) (x3 : Int32) (s : Int32) (x : (Int32) ⊕ (Int32 × (Nat → Int32))) {hi hm : zHp} {nx : Nat} {Q : Option Value → zHp → zHp → Nat → Prop} {hm0 : zHp} (hW : mW cB cI am a1 a2 a3 F G tp w oc hm) (hFr : mFr am a1 a2 a3 hm0 hm) (h : mreads_13 n F tp x1 x2 x3 s = some x) (hL13 : ∀ s : Int32, x = (.inl s) → ∀ hm', mW cB cI am a1 a2 a3 F G tp w oc hm' → mFr am a1 a2 a3 hm0 hm' → zV s0 D (zty cB cI cJ cD) yX12_reads cX12_reads 7 (some .int) 2 46 0 0 13 [(0, .ref am), (1, .int x1), (2, .int x2), (3, .int x3), (4, .int s)] [] hi hm' nx Q) (hQ : ∀ r : Int32 × (Nat → Int32), x = (.inr r) → ∀ hm', mW cB cI am a1 a2 a3 r.2 G tp w oc hm' → mFr am a1 a2 a3 hm0 hm' → Q (some (.int r.1)) hi hm' nx) : zV s0 D (zty cB cI cJ cD) yX12_reads cX12_reads 7 (some .int) 2 46 0 0 13 [(0, .ref am), (1, .int x1), (2, .int x2), (3, .int x3), (4, .int s)] [] hi hm nx Q := by
  unfold mreads_13 at h
  refine zV_blk (pc' := 18) (lo' := [(0, .ref am), (1, .int x1), (2, .int x2), (3, .int x3), (4, .int s)]) (st' := [.int (x3 + s), .ref am]) [.aload_n 0, .iload_n 3, .iload 4, .iadd] (by decide +kernel) rfl ?_
  obtain ⟨v1, hv1, h⟩ := zbind h
  refine m_cR (idx := 110) (rest := []) hW (cmisDigit s0 D cB cI cJ cD am a1 a2 a3 F G tp w oc (x3 + s) v1 hv1) oX12_isDigit rfl (zT_mem 1597 (by decide +kernel) rfl) (zT_mem 1599 (by decide +kernel) rfl) (zT_mem 34 (by decide +kernel) rfl) rfl rfl (Nat.le_of_ble_eq_true rfl) ⟨by decide, by decide⟩ (by decide +kernel) ?_
  refine zV_eq (st2 := [.int (zb v1)]) rfl rfl rfl rfl ?_
  refine zV_bif_eq (tgt := 30) (off := 9) (by decide +kernel) (by decide) (fun q => ?_) (fun q => ?_)
  · replace h := zif_neg q h
    clear q
    refine zV_blk (pc' := 31) (lo' := [(0, .ref am), (1, .int x1), (2, .int x2), (3, .int x3), (4, .int s)]) (st' := [.ref am]) [.aload_n 0] (by decide +kernel) rfl ?_
    obtain ⟨v2, hv2, h⟩ := zbind h
    refine m_cR (idx := 86) (rest := []) hW (cmisFine s0 D cB cI cJ cD am a1 a2 a3 F G tp w oc  v2 hv2) oX12_isFine rfl (zT_mem 1547 (by decide +kernel) rfl) (zT_mem 1549 (by decide +kernel) rfl) (zT_mem 23 (by decide +kernel) rfl) rfl rfl (Nat.le_of_ble_eq_true rfl) ⟨by decide, by decide⟩ (by decide +kernel) ?_
    refine zV_eq (st2 := [.int (zb v2)]) rfl rfl rfl rfl ?_
    refine zV_bif_eq (tgt := 61) (off := 27) (by decide +kernel) (by decide) (fun q => ?_) (fun q => ?_)
    · replace h := zif_neg q h
      clear q
      obtain ⟨z3, h9, hx⟩ := zmap h
      clear h; subst hx; have h := h9; clear h9
      refine zV_pick (lo2 := [(0, .ref am), (1, .int x1), (2, .int x2), (3, .int x3), (4, .int s)]) [0, 1, 2, 3, 4] rfl ?_
      exact cmreads_61 s0 D cB cI cJ cD am a1 a2 a3 F G tp w oc n x1 x2 x3 s hW hFr h (fun r hr => hQ r (by rw [hr]))
    · replace h := zif_pos q h
      clear q
      refine zV_blk (pc' := 39) (lo' := [(0, .ref am), (1, .int x1), (2, .int x2), (3, .int x3), (4, .int s)]) (st' := [.int s]) [.iload 4] (by decide +kernel) rfl ?_
      refine zV_if_eq (tgt := 57) (off := 18) (by decide +kernel) (by decide) (fun q => ?_) (fun q => ?_)
      · replace h := zif_pos q h
        clear q
        obtain ⟨z4, h9, hx⟩ := zmap h
        clear h; subst hx; have h := h9; clear h9
        refine zV_pick (lo2 := [(0, .ref am), (1, .int x1), (2, .int x2), (3, .int x3), (4, .int s)]) [0, 1, 2, 3, 4] rfl ?_
        exact cmreads_57 s0 D cB cI cJ cD am a1 a2 a3 F G tp w oc n x1 x2 x3 s hW hFr h (fun r hr => hQ r (by rw [hr]))
      · replace h := zif_neg q h
        clear q
        refine zV_blk (pc' := 46) (lo' := [(0, .ref am), (1, .int x1), (2, .int x2), (3, .int x3), (4, .int s)]) (st' := [.int 7, .int s]) [.iload 4, .bipush 7] (by decide +kernel) rfl ?_
        refine zV_icmp_gt (tgt := 57) (off := 11) (by decide +kernel) (by decide) (fun q => ?_) (fun q => ?_)
        · replace h := zif_pos q h
          clear q
          obtain ⟨z5, h9, hx⟩ := zmap h
          clear h; subst hx; have h := h9; clear h9
          refine zV_pick (lo2 := [(0, .ref am), (1, .int x1), (2, .int x2), (3, .int x3), (4, .int s)]) [0, 1, 2, 3, 4] rfl ?_
          exact cmreads_57 s0 D cB cI cJ cD am a1 a2 a3 F G tp w oc n x1 x2 x3 s hW hFr h (fun r hr => hQ r (by rw [hr]))
        · replace h := zif_neg q h
          clear q
          refine zV_blk (pc' := 51) (lo' := [(0, .ref am), (1, .int x1), (2, .int x2), (3, .int x3), (4, .int s)]) (st' := [.ref am, .int x3]) [.iload_n 3, .aload_n 0] (by decide +kernel) rfl ?_
          refine m_get (idx := 58) (k := 5) (v := .int (F 5)) hW m_in12 (by decide) (zT_mem 1445 (by decide +kernel) rfl) rfl (by decide +kernel) ?_
          refine zV_icmp_ne (tgt := 61) (off := 7) (by decide +kernel) (by decide) (fun q => ?_) (fun q => ?_)
          · replace h := zif_neg q h
            clear q
            obtain ⟨z6, h9, hx⟩ := zmap h
            clear h; subst hx; have h := h9; clear h9
            refine zV_pick (lo2 := [(0, .ref am), (1, .int x1), (2, .int x2), (3, .int x3), (4, .int s)]) [0, 1, 2, 3, 4] rfl ?_
            exact cmreads_61 s0 D cB cI cJ cD am a1 a2 a3 F G tp w oc n x1 x2 x3 s hW hFr h (fun r hr => hQ r (by rw [hr]))
          · replace h := zif_pos q h
            clear q
            obtain ⟨z7, h9, hx⟩ := zmap h
            clear h; subst hx; have h := h9; clear h9
            refine zV_pick (lo2 := [(0, .ref am), (1, .int x1), (2, .int x2), (3, .int x3), (4, .int s)]) [0, 1, 2, 3, 4] rfl ?_
            exact cmreads_57 s0 D cB cI cJ cD am a1 a2 a3 F G tp w oc n x1 x2 x3 s hW hFr h (fun r hr => hQ r (by rw [hr]))
  · replace h := zif_pos q h
    clear q
    refine zV_blk (pc' := 27) (lo' := [(4, .int (s + 1)), (0, .ref am), (1, .int x1), (2, .int x2), (3, .int x3)]) (st' := []) [.iinc 4 1] (by decide +kernel) rfl ?_
    refine zV_goto (tgt := 13) (off := -14) (by decide +kernel) (by decide) ?_
    obtain rfl := Option.some.inj h
    refine zV_pick (lo2 := [(0, .ref am), (1, .int x1), (2, .int x2), (3, .int x3), (4, .int (s + 1))]) [1, 2, 3, 4, 0] rfl ?_
    exact hL13 _ rfl hm hW hFr
theorem cmreads_13L (s0 : State) (D : va_G) (cB cI cJ cD : ClassId) (am a1 a2 a3 : Nat) (F : Nat → Int32) (G : Nat → Int64) (tp : Nat → Int32) (w : Nat → Int32) (oc : Nat → Int32) (n : Nat) (x1 : Int32) (x2 : Int32) (x3 : Int32) : ∀ (k : Nat) (s : Int32) {hi hm : zHp} {nx : Nat} {Q : Option Value → zHp → zHp → Nat → Prop} {hm0 : zHp} (_ : mW cB cI am a1 a2 a3 F G tp w oc hm) (_ : mFr am a1 a2 a3 hm0 hm) {x : Int32 × (Nat → Int32)} (_ : zloop (mreads_13 n F tp x1 x2 x3) k s = some x) (hQ : ∀ r : Int32 × (Nat → Int32), x = r → ∀ hm', mW cB cI am a1 a2 a3 r.2 G tp w oc hm' → mFr am a1 a2 a3 hm0 hm' → Q (some (.int r.1)) hi hm' nx), zV s0 D (zty cB cI cJ cD) yX12_reads cX12_reads 7 (some .int) 2 46 0 0 13 [(0, .ref am), (1, .int x1), (2, .int x2), (3, .int x3), (4, .int s)] [] hi hm nx Q
  | 0, s, _, _, _, _, _, hW, hFr, _, h, _ => by cases h
  | k + 1, s, hi, hm, nx, Q, hm0, hW, hFr, x, h, hQ => by
    obtain ⟨z, hz, h1, h2⟩ := zloop_succ h
    exact cmreads_13 s0 D cB cI cJ cD am a1 a2 a3 F G tp w oc n x1 x2 x3 s z hW hFr hz (fun s' hs hm' hW' hFr' => cmreads_13L s0 D cB cI cJ cD am a1 a2 a3 F G tp w oc n x1 x2 x3 k s' hW' hFr' (h1 s' hs) hQ) (fun r hr hm' hW' hFr' => hQ r (h2 _ hr).symm hm' hW' hFr')
def mreads (n : Nat) (F : Nat → Int32) (tp : Nat → Int32) (x1 : Int32) (x2 : Int32) : Option (Int32 × (Nat → Int32)) := (mnext n F tp).bind (fun v1 => (zloop (mreads_13 n (upd v1.2 11 v1.1) tp x1 x2 v1.1) n 0))
theorem oX12_reads : zO yX12_reads cX12_reads 7 (some .int) 2 := ⟨zT_mem 1596 (by decide +kernel) rfl, zT_mem 94 (by decide +kernel) rfl, by decide +kernel, by decide +kernel, by decide +kernel⟩
set_option maxHeartbeats 4000000 in
set_option maxRecDepth 100000 in
theorem cmreads (s0 : State) (D : va_G) (cB cI cJ cD : ClassId) (am a1 a2 a3 : Nat) (F : Nat → Int32) (G : Nat → Int64) (tp w oc : Nat → Int32) (n : Nat) (x1 : Int32) (x2 : Int32) (x : Int32 × (Nat → Int32)) (h : mreads n F tp x1 x2 = some x) : mC s0 D cB cI cJ cD am a1 a2 a3 yX12_reads cX12_reads 7 (some .int) 2 46 [.int x1, .int x2] F G tp w oc (some (.int x.1)) x.2 G tp w oc := by
  intro hi hm nx Q hW hQ0
  have hQ : ∀ r : Int32 × (Nat → Int32), x = r → ∀ hm', mW cB cI am a1 a2 a3 r.2 G tp w oc hm' → mFr am a1 a2 a3 hm hm' → Q (some (.int r.1)) hi hm' nx := fun r hr => by subst hr; exact hQ0
  have hFr : mFr am a1 a2 a3 hm hm := mFr.rf
  clear hQ0
  refine zM_of (by decide +kernel) (Nat.le_of_ble_eq_true rfl) ?_
  unfold mreads at h
  refine zV_eq (lo2 := [(0, .ref am), (1, .int x1), (2, .int x2)]) rfl rfl rfl rfl ?_
  refine zV_blk (pc' := 1) (lo' := [(0, .ref am), (1, .int x1), (2, .int x2)]) (st' := [.ref am]) [.aload_n 0] (by decide +kernel) rfl ?_
  obtain ⟨v1, hv1, h⟩ := zbind h
  refine m_cC (idx := 75) (rest := []) hW (cmnext s0 D cB cI cJ cD am a1 a2 a3 F G tp w oc n  v1 hv1) oX12_next rfl (zT_mem 1551 (by decide +kernel) rfl) (zT_mem 1553 (by decide +kernel) rfl) (zT_mem 24 (by decide +kernel) rfl) rfl rfl (Nat.le_of_ble_eq_true rfl) ⟨by decide, by decide⟩ (by decide +kernel) (fun hm hW hFr2 => ?_)
  replace hFr := hFr.tr hFr2; clear hFr2
  refine zV_eq (st2 := [.int v1.1]) rfl rfl rfl rfl ?_
  refine zV_blk (pc' := 7) (lo' := [(3, .int v1.1), (0, .ref am), (1, .int x1), (2, .int x2)]) (st' := [.int v1.1, .ref am]) [.istore_n 3, .aload_n 0, .iload_n 3] (by decide +kernel) rfl ?_
  refine m_put (idx := 113) (k := 11) (v := .int v1.1) (F' := (upd v1.2 11 v1.1)) (G' := G) hW m_in12 (by decide) (zT_mem 1451 (by decide +kernel) rfl) rfl rfl rfl rfl (by decide +kernel) (fun hm hW hFr2 => ?_)
  replace hFr := hFr.tr hFr2; clear hFr2
  refine zV_blk (pc' := 13) (lo' := [(4, .int 0), (3, .int v1.1), (0, .ref am), (1, .int x1), (2, .int x2)]) (st' := []) [.iconst 0, .istore 4] (by decide +kernel) rfl ?_
  refine zV_pick (lo2 := [(0, .ref am), (1, .int x1), (2, .int x2), (3, .int v1.1), (4, .int 0)]) [2, 3, 4, 1, 0] rfl ?_
  exact cmreads_13L s0 D cB cI cJ cD am a1 a2 a3 (upd v1.2 11 v1.1) G tp w oc n x1 x2 v1.1 n 0 hW hFr h hQ

def mbank (x0 : Int32) : Option (Int32) := some (442 * x0)
theorem oX12_bank : zO yX12_bank cX12_bank 1 (some .int) 1 := ⟨zT_mem 1673 (by decide +kernel) rfl, zT_mem 94 (by decide +kernel) rfl, by decide +kernel, by decide +kernel, by decide +kernel⟩
set_option maxHeartbeats 4000000 in
set_option maxRecDepth 100000 in
theorem cmbank (s0 : State) (D : va_G) (cB cI cJ cD : ClassId) (x0 : Int32) (x : Int32) (h : mbank x0 = some x) : sC s0 D (zty cB cI cJ cD) yX12_bank cX12_bank 1 (some .int) 0 0 [.int x0] (.int x) := by
  intro hi hm nx Q hQ0
  have hQ : ∀ r : Int32, x = r → Q (some (.int r)) hi hm nx := fun r hr => by subst hr; exact hQ0
  refine zM_of (by decide +kernel) (Nat.le_of_ble_eq_true rfl) ?_
  unfold mbank at h
  refine zV_eq (lo2 := [(0, .int x0)]) rfl rfl rfl rfl ?_
  refine zV_blk (pc' := 5) (lo' := [(0, .int x0)]) (st' := [.int (442 * x0)]) [.sipush 442, .iload_n 0, .imul] (by decide +kernel) rfl ?_
  obtain rfl := Option.some.inj h
  exact zV_iret rfl (by decide +kernel) (hQ _ rfl)

def misThere (w : Nat → Int32) (x1 : Int32) : Option (Bool) := (misIn (x1 : Int32).toInt64 0 5).bind (fun v1 => (if v1 = true then (mbank x1).bind (fun v2 => zck (zin ((v2 + 0)) 35802) ((if ((w ((v2 + 0) : Int32).toNatClampNeg) : Int32) = (1 : Int32) then some true else some false))) else some false))
theorem oX12_isThere : zO yX12_isThere cX12_isThere 2 (some .boolean) 1 := ⟨zT_mem 1689 (by decide +kernel) rfl, zT_mem 94 (by decide +kernel) rfl, by decide +kernel, by decide +kernel, by decide +kernel⟩
set_option maxHeartbeats 4000000 in
set_option maxRecDepth 100000 in
theorem cmisThere (s0 : State) (D : va_G) (cB cI cJ cD : ClassId) (am a1 a2 a3 : Nat) (F : Nat → Int32) (G : Nat → Int64) (tp w oc : Nat → Int32) (x1 : Int32) (x : Bool) (h : misThere w x1 = some x) : mR s0 D cB cI cJ cD am a1 a2 a3 yX12_isThere cX12_isThere 2 (some .boolean) 1 25 [.int x1] F G tp w oc (some (.int (zb x))) := by
  intro hi hm nx Q hW hQ0
  have hQ : ∀ r : Bool, x = r → Q (some (.int (zb r))) hi hm nx := fun r hr => by subst hr; exact hQ0
  refine zM_of (by decide +kernel) (Nat.le_of_ble_eq_true rfl) ?_
  unfold misThere at h
  refine zV_eq (lo2 := [(0, .ref am), (1, .int x1)]) rfl rfl rfl rfl ?_
  refine zV_blk (pc' := 3) (lo' := [(0, .ref am), (1, .int x1)]) (st' := [.long 0, .long (x1 : Int32).toInt64]) [.iload_n 1, .i2l, .lconst 0] (by decide +kernel) rfl ?_
  refine zV_ldc2 (idx := 116) (v := 5) (zT_mem 1538 (by decide +kernel) rfl) (by decide +kernel) ?_
  obtain ⟨v1, hv1, h⟩ := zbind h
  refine zV_sC (idx := 36) (rest := []) (cmisIn s0 D cB cI cJ cD (x1 : Int32).toInt64 0 5 v1 hv1) oX12_isIn (zT_mem 1531 (by decide +kernel) rfl) (zT_mem 1532 (by decide +kernel) rfl) rfl rfl (Nat.le_of_ble_eq_true rfl) ⟨by decide, by decide⟩ (by decide +kernel) ?_
  refine zV_eq (st2 := [.int (zb v1)]) rfl rfl rfl rfl ?_
  refine zV_bif_eq (tgt := 31) (off := 22) (by decide +kernel) (by decide) (fun q => ?_) (fun q => ?_)
  · replace h := zif_neg q h
    clear q
    refine zV_blk (pc' := 32) (lo' := [(0, .ref am), (1, .int x1)]) (st' := [.int 0]) [.iconst 0] (by decide +kernel) rfl ?_
    obtain rfl := Option.some.inj h
    refine zV_eq (st2 := [.int (zb false)]) rfl rfl rfl rfl ?_
    exact zV_bret rfl (by decide +kernel) (hQ _ rfl)
  · replace h := zif_pos q h
    clear q
    refine zV_blk (pc' := 13) (lo' := [(0, .ref am), (1, .int x1)]) (st' := [.ref am]) [.aload_n 0] (by decide +kernel) rfl ?_
    refine m_get (idx := 18) (k := 12) (v := .ref a2) hW m_in12 (by decide) (zT_mem 1452 (by decide +kernel) rfl) rfl (by decide +kernel) ?_
    refine zV_blk (pc' := 17) (lo' := [(0, .ref am), (1, .int x1)]) (st' := [.int x1, .ref a2]) [.iload_n 1] (by decide +kernel) rfl ?_
    obtain ⟨v2, hv2, h⟩ := zbind h
    refine zV_sC (idx := 118) (rest := [.ref a2]) (cmbank s0 D cB cI cJ cD x1 v2 hv2) oX12_bank (zT_mem 1671 (by decide +kernel) rfl) (zT_mem 1672 (by decide +kernel) rfl) rfl rfl (Nat.le_of_ble_eq_true rfl) ⟨by decide, by decide⟩ (by decide +kernel) ?_
    refine zV_eq (st2 := [.int v2, .ref a2]) rfl rfl rfl rfl ?_
    refine zV_blk (pc' := 22) (lo' := [(0, .ref am), (1, .int x1)]) (st' := [.int (v2 + 0), .ref a2]) [.iconst 0, .iadd] (by decide +kernel) rfl ?_
    obtain ⟨hz, h⟩ := zck_some h
    refine m_wld hW hz (by decide +kernel) ?_
    refine zV_blk (pc' := 24) (lo' := [(0, .ref am), (1, .int x1)]) (st' := [.int 1, .int (w ((v2 + 0) : Int32).toNatClampNeg)]) [.iconst 1] (by decide +kernel) rfl ?_
    refine zV_icmp_ne (tgt := 31) (off := 7) (by decide +kernel) (by decide) (fun q => ?_) (fun q => ?_)
    · replace h := zif_neg q h
      clear q
      refine zV_blk (pc' := 32) (lo' := [(0, .ref am), (1, .int x1)]) (st' := [.int 0]) [.iconst 0] (by decide +kernel) rfl ?_
      obtain rfl := Option.some.inj h
      refine zV_eq (st2 := [.int (zb false)]) rfl rfl rfl rfl ?_
      exact zV_bret rfl (by decide +kernel) (hQ _ rfl)
    · replace h := zif_pos q h
      clear q
      refine zV_blk (pc' := 28) (lo' := [(0, .ref am), (1, .int x1)]) (st' := [.int 1]) [.iconst 1] (by decide +kernel) rfl ?_
      refine zV_goto (tgt := 32) (off := 4) (by decide +kernel) (by decide) ?_
      obtain rfl := Option.some.inj h
      refine zV_eq (st2 := [.int (zb true)]) rfl rfl rfl rfl ?_
      exact zV_bret rfl (by decide +kernel) (hQ _ rfl)

def mcopies_2 (n : Nat) (x1 : Int32) (x2 : Int32) (s : Int32 × (Nat → Int32)) : Option ((Int32 × (Nat → Int32)) ⊕ ((Nat → Int32))) := (if (442 : Int32) ≤ (s.1 : Int32) then some (.inr s.2) else zck (zin ((x2 + s.1)) 35802) (zck (zin ((x1 + s.1)) 35802) (some (.inl ((s.1 + 1), (upd s.2 ((x1 + s.1) : Int32).toNatClampNeg (s.2 ((x2 + s.1) : Int32).toNatClampNeg)))))))
set_option maxHeartbeats 4000000 in
set_option maxRecDepth 100000 in
theorem cmcopies_2 (s0 : State) (D : va_G) (cB cI cJ cD : ClassId) (am a1 a2 a3 : Nat) (F : Nat → Int32) (G : Nat → Int64) (tp : Nat → Int32) (oc : Nat → Int32) (n : Nat) (x1 : Int32) (x2 : Int32) (s : Int32 × (Nat → Int32)) (x : (Int32 × (Nat → Int32)) ⊕ ((Nat → Int32))) {hi hm : zHp} {nx : Nat} {Q : Option Value → zHp → zHp → Nat → Prop} {hm0 : zHp} (hW : mW cB cI am a1 a2 a3 F G tp s.2 oc hm) (hFr : mFr am a1 a2 a3 hm0 hm) (h : mcopies_2 n x1 x2 s = some x) (hL2 : ∀ s : Int32 × (Nat → Int32), x = (.inl s) → ∀ hm', mW cB cI am a1 a2 a3 F G tp s.2 oc hm' → mFr am a1 a2 a3 hm0 hm' → zV s0 D (zty cB cI cJ cD) yX12_copies cX12_copies 4 none 0 0 0 0 2 [(0, .ref am), (1, .int x1), (2, .int x2), (3, .int s.1)] [] hi hm' nx Q) (hQ : ∀ r : (Nat → Int32), x = (.inr r) → ∀ hm', mW cB cI am a1 a2 a3 F G tp r oc hm' → mFr am a1 a2 a3 hm0 hm' → Q none hi hm' nx) : zV s0 D (zty cB cI cJ cD) yX12_copies cX12_copies 4 none 0 0 0 0 2 [(0, .ref am), (1, .int x1), (2, .int x2), (3, .int s.1)] [] hi hm nx Q := by
  unfold mcopies_2 at h
  refine zV_blk (pc' := 6) (lo' := [(0, .ref am), (1, .int x1), (2, .int x2), (3, .int s.1)]) (st' := [.int 442, .int s.1]) [.iload_n 3, .sipush 442] (by decide +kernel) rfl ?_
  refine zV_icmp_ge (tgt := 31) (off := 25) (by decide +kernel) (by decide) (fun q => ?_) (fun q => ?_)
  · replace h := zif_pos q h
    clear q
    obtain rfl := Option.some.inj h
    exact zV_vret rfl (by decide +kernel) (hQ _ rfl hm hW hFr)
  · replace h := zif_neg q h
    clear q
    refine zV_blk (pc' := 10) (lo' := [(0, .ref am), (1, .int x1), (2, .int x2), (3, .int s.1)]) (st' := [.ref am]) [.aload_n 0] (by decide +kernel) rfl ?_
    refine m_get (idx := 18) (k := 12) (v := .ref a2) hW m_in12 (by decide) (zT_mem 1452 (by decide +kernel) rfl) rfl (by decide +kernel) ?_
    refine zV_blk (pc' := 17) (lo' := [(0, .ref am), (1, .int x1), (2, .int x2), (3, .int s.1)]) (st' := [.ref am, .int (x1 + s.1), .ref a2]) [.iload_n 1, .iload_n 3, .iadd, .aload_n 0] (by decide +kernel) rfl ?_
    refine m_get (idx := 18) (k := 12) (v := .ref a2) hW m_in12 (by decide) (zT_mem 1452 (by decide +kernel) rfl) rfl (by decide +kernel) ?_
    refine zV_blk (pc' := 23) (lo' := [(0, .ref am), (1, .int x1), (2, .int x2), (3, .int s.1)]) (st' := [.int (x2 + s.1), .ref a2, .int (x1 + s.1), .ref a2]) [.iload_n 2, .iload_n 3, .iadd] (by decide +kernel) rfl ?_
    obtain ⟨hz, h⟩ := zck_some h
    refine m_wld hW hz (by decide +kernel) ?_
    obtain ⟨hz, h⟩ := zck_some h
    refine m_wst hW hz (by decide +kernel) (fun hm hW hFr2 => ?_)
    replace hFr := hFr.tr hFr2; clear hFr2
    refine zV_blk (pc' := 28) (lo' := [(3, .int (s.1 + 1)), (0, .ref am), (1, .int x1), (2, .int x2)]) (st' := []) [.iinc 3 1] (by decide +kernel) rfl ?_
    refine zV_goto (tgt := 2) (off := -26) (by decide +kernel) (by decide) ?_
    obtain rfl := Option.some.inj h
    refine zV_pick (lo2 := [(0, .ref am), (1, .int x1), (2, .int x2), (3, .int (s.1 + 1))]) [1, 2, 3, 0] rfl ?_
    exact hL2 _ rfl hm hW hFr
theorem cmcopies_2L (s0 : State) (D : va_G) (cB cI cJ cD : ClassId) (am a1 a2 a3 : Nat) (F : Nat → Int32) (G : Nat → Int64) (tp : Nat → Int32) (oc : Nat → Int32) (n : Nat) (x1 : Int32) (x2 : Int32) : ∀ (k : Nat) (s : Int32 × (Nat → Int32)) {hi hm : zHp} {nx : Nat} {Q : Option Value → zHp → zHp → Nat → Prop} {hm0 : zHp} (_ : mW cB cI am a1 a2 a3 F G tp s.2 oc hm) (_ : mFr am a1 a2 a3 hm0 hm) {x : (Nat → Int32)} (_ : zloop (mcopies_2 n x1 x2) k s = some x) (hQ : ∀ r : (Nat → Int32), x = r → ∀ hm', mW cB cI am a1 a2 a3 F G tp r oc hm' → mFr am a1 a2 a3 hm0 hm' → Q none hi hm' nx), zV s0 D (zty cB cI cJ cD) yX12_copies cX12_copies 4 none 0 0 0 0 2 [(0, .ref am), (1, .int x1), (2, .int x2), (3, .int s.1)] [] hi hm nx Q
  | 0, s, _, _, _, _, _, hW, hFr, _, h, _ => by cases h
  | k + 1, s, hi, hm, nx, Q, hm0, hW, hFr, x, h, hQ => by
    obtain ⟨z, hz, h1, h2⟩ := zloop_succ h
    exact cmcopies_2 s0 D cB cI cJ cD am a1 a2 a3 F G tp oc n x1 x2 s z hW hFr hz (fun s' hs hm' hW' hFr' => cmcopies_2L s0 D cB cI cJ cD am a1 a2 a3 F G tp oc n x1 x2 k s' hW' hFr' (h1 s' hs) hQ) (fun r hr hm' hW' hFr' => hQ r (h2 _ hr).symm hm' hW' hFr')
def mcopies (n : Nat) (w : Nat → Int32) (x1 : Int32) (x2 : Int32) : Option ((Nat → Int32)) := (zloop (mcopies_2 n x1 x2) n (0, w))
theorem oX12_copies : zO yX12_copies cX12_copies 4 none 2 := ⟨zT_mem 1677 (by decide +kernel) rfl, zT_mem 94 (by decide +kernel) rfl, by decide +kernel, by decide +kernel, by decide +kernel⟩
set_option maxHeartbeats 4000000 in
set_option maxRecDepth 100000 in
theorem cmcopies (s0 : State) (D : va_G) (cB cI cJ cD : ClassId) (am a1 a2 a3 : Nat) (F : Nat → Int32) (G : Nat → Int64) (tp w oc : Nat → Int32) (n : Nat) (x1 : Int32) (x2 : Int32) (x : (Nat → Int32)) (h : mcopies n w x1 x2 = some x) : mC s0 D cB cI cJ cD am a1 a2 a3 yX12_copies cX12_copies 4 none 0 0 [.int x1, .int x2] F G tp w oc none F G tp x oc := by
  intro hi hm nx Q hW hQ0
  have hQ : ∀ r : (Nat → Int32), x = r → ∀ hm', mW cB cI am a1 a2 a3 F G tp r oc hm' → mFr am a1 a2 a3 hm hm' → Q none hi hm' nx := fun r hr => by subst hr; exact hQ0
  have hFr : mFr am a1 a2 a3 hm hm := mFr.rf
  clear hQ0
  refine zM_of (by decide +kernel) (Nat.le_of_ble_eq_true rfl) ?_
  unfold mcopies at h
  refine zV_eq (lo2 := [(0, .ref am), (1, .int x1), (2, .int x2)]) rfl rfl rfl rfl ?_
  refine zV_blk (pc' := 2) (lo' := [(3, .int 0), (0, .ref am), (1, .int x1), (2, .int x2)]) (st' := []) [.iconst 0, .istore_n 3] (by decide +kernel) rfl ?_
  refine zV_pick (lo2 := [(0, .ref am), (1, .int x1), (2, .int x2), (3, .int 0)]) [1, 2, 3, 0] rfl ?_
  exact cmcopies_2L s0 D cB cI cJ cD am a1 a2 a3 F G tp oc n x1 x2 n (0, w) hW hFr h hQ

def mlays (F : Nat → Int32) (w : Nat → Int32) (x1 : Int32) (x2 : Int32) : Option ((Nat → Int32)) := (misFine F).bind (fun v1 => (if v1 = true then zck (zin ((2652 + x1)) 35802) (some (upd w ((2652 + x1) : Int32).toNatClampNeg x2)) else some w))
theorem oX12_lays : zO yX12_lays cX12_lays 3 none 2 := ⟨zT_mem 1606 (by decide +kernel) rfl, zT_mem 94 (by decide +kernel) rfl, by decide +kernel, by decide +kernel, by decide +kernel⟩
set_option maxHeartbeats 4000000 in
set_option maxRecDepth 100000 in
theorem cmlays (s0 : State) (D : va_G) (cB cI cJ cD : ClassId) (am a1 a2 a3 : Nat) (F : Nat → Int32) (G : Nat → Int64) (tp w oc : Nat → Int32) (x1 : Int32) (x2 : Int32) (x : (Nat → Int32)) (h : mlays F w x1 x2 = some x) : mC s0 D cB cI cJ cD am a1 a2 a3 yX12_lays cX12_lays 3 none 1 20 [.int x1, .int x2] F G tp w oc none F G tp x oc := by
  intro hi hm nx Q hW hQ0
  have hQ : ∀ r : (Nat → Int32), x = r → ∀ hm', mW cB cI am a1 a2 a3 F G tp r oc hm' → mFr am a1 a2 a3 hm hm' → Q none hi hm' nx := fun r hr => by subst hr; exact hQ0
  have hFr : mFr am a1 a2 a3 hm hm := mFr.rf
  clear hQ0
  refine zM_of (by decide +kernel) (Nat.le_of_ble_eq_true rfl) ?_
  unfold mlays at h
  refine zV_eq (lo2 := [(0, .ref am), (1, .int x1), (2, .int x2)]) rfl rfl rfl rfl ?_
  refine zV_blk (pc' := 1) (lo' := [(0, .ref am), (1, .int x1), (2, .int x2)]) (st' := [.ref am]) [.aload_n 0] (by decide +kernel) rfl ?_
  obtain ⟨v1, hv1, h⟩ := zbind h
  refine m_cR (idx := 86) (rest := []) hW (cmisFine s0 D cB cI cJ cD am a1 a2 a3 F G tp w oc  v1 hv1) oX12_isFine rfl (zT_mem 1547 (by decide +kernel) rfl) (zT_mem 1549 (by decide +kernel) rfl) (zT_mem 23 (by decide +kernel) rfl) rfl rfl (Nat.le_of_ble_eq_true rfl) ⟨by decide, by decide⟩ (by decide +kernel) ?_
  refine zV_eq (st2 := [.int (zb v1)]) rfl rfl rfl rfl ?_
  refine zV_bif_eq (tgt := 18) (off := 14) (by decide +kernel) (by decide) (fun q => ?_) (fun q => ?_)
  · replace h := zif_neg q h
    clear q
    obtain rfl := Option.some.inj h
    exact zV_vret rfl (by decide +kernel) (hQ _ rfl hm hW hFr)
  · replace h := zif_pos q h
    clear q
    refine zV_blk (pc' := 8) (lo' := [(0, .ref am), (1, .int x1), (2, .int x2)]) (st' := [.ref am]) [.aload_n 0] (by decide +kernel) rfl ?_
    refine m_get (idx := 18) (k := 12) (v := .ref a2) hW m_in12 (by decide) (zT_mem 1452 (by decide +kernel) rfl) rfl (by decide +kernel) ?_
    refine zV_blk (pc' := 17) (lo' := [(0, .ref am), (1, .int x1), (2, .int x2)]) (st' := [.int x2, .int (2652 + x1), .ref a2]) [.sipush 2652, .iload_n 1, .iadd, .iload_n 2] (by decide +kernel) rfl ?_
    obtain ⟨hz, h⟩ := zck_some h
    refine m_wst hW hz (by decide +kernel) (fun hm hW hFr2 => ?_)
    replace hFr := hFr.tr hFr2; clear hFr2
    obtain rfl := Option.some.inj h
    exact zV_vret rfl (by decide +kernel) (hQ _ rfl hm hW hFr)

def monce_21 (n : Nat) (F : Nat → Int32) (tp : Nat → Int32) (x1 : Int32) (x2 : Int64) : Option ((Nat → Int32)) := (misFine (upd F 13 ((F 13) ||| (1 <<< (x1 &&& 31))))).bind (fun v1 => (if v1 = true then (mtakes n (upd F 13 ((F 13) ||| (1 <<< (x1 &&& 31)))) tp x2).bind (fun v2 => (if v2.1 = true then some (v2.2) else (munlike n v2.2 tp).bind (fun v3 => some v3))) else some (upd F 13 ((F 13) ||| (1 <<< (x1 &&& 31))))))
set_option maxHeartbeats 4000000 in
set_option maxRecDepth 100000 in
theorem cmonce_21 (s0 : State) (D : va_G) (cB cI cJ cD : ClassId) (am a1 a2 a3 : Nat) (F : Nat → Int32) (G : Nat → Int64) (tp w oc : Nat → Int32) (n : Nat) (x1 : Int32) (x2 : Int64) {hi hm : zHp} {nx : Nat} {Q : Option Value → zHp → zHp → Nat → Prop} {hm0 : zHp} {x : (Nat → Int32)} (hW : mW cB cI am a1 a2 a3 F G tp w oc hm) (hFr : mFr am a1 a2 a3 hm0 hm) (h : monce_21 n F tp x1 x2 = some x) (hQ : ∀ r : (Nat → Int32), x = r → ∀ hm', mW cB cI am a1 a2 a3 r G tp w oc hm' → mFr am a1 a2 a3 hm0 hm' → Q none hi hm' nx) : zV s0 D (zty cB cI cJ cD) yX12_once cX12_once 4 none 4 93 0 0 21 [(0, .ref am), (1, .int x1), (2, .long x2)] [] hi hm nx Q := by
  unfold monce_21 at h
  refine zV_blk (pc' := 23) (lo' := [(0, .ref am), (1, .int x1), (2, .long x2)]) (st' := [.ref am, .ref am]) [.aload_n 0, .dup] (by decide +kernel) rfl ?_
  refine m_get (idx := 122) (k := 13) (v := .int (F 13)) hW m_in12 (by decide) (zT_mem 1453 (by decide +kernel) rfl) rfl (by decide +kernel) ?_
  refine zV_blk (pc' := 30) (lo' := [(0, .ref am), (1, .int x1), (2, .long x2)]) (st' := [.int ((F 13) ||| (1 <<< (x1 &&& 31))), .ref am]) [.iconst 1, .iload_n 1, .ishl, .ior] (by decide +kernel) rfl ?_
  refine m_put (idx := 122) (k := 13) (v := .int ((F 13) ||| (1 <<< (x1 &&& 31)))) (F' := (upd F 13 ((F 13) ||| (1 <<< (x1 &&& 31))))) (G' := G) hW m_in12 (by decide) (zT_mem 1453 (by decide +kernel) rfl) rfl rfl rfl rfl (by decide +kernel) (fun hm hW hFr2 => ?_)
  replace hFr := hFr.tr hFr2; clear hFr2
  refine zV_blk (pc' := 34) (lo' := [(0, .ref am), (1, .int x1), (2, .long x2)]) (st' := [.ref am]) [.aload_n 0] (by decide +kernel) rfl ?_
  obtain ⟨v1, hv1, h⟩ := zbind h
  refine m_cR (idx := 86) (rest := []) hW (cmisFine s0 D cB cI cJ cD am a1 a2 a3 (upd F 13 ((F 13) ||| (1 <<< (x1 &&& 31)))) G tp w oc  v1 hv1) oX12_isFine rfl (zT_mem 1547 (by decide +kernel) rfl) (zT_mem 1549 (by decide +kernel) rfl) (zT_mem 23 (by decide +kernel) rfl) rfl rfl (Nat.le_of_ble_eq_true rfl) ⟨by decide, by decide⟩ (by decide +kernel) ?_
  refine zV_eq (st2 := [.int (zb v1)]) rfl rfl rfl rfl ?_
  refine zV_bif_eq (tgt := 52) (off := 15) (by decide +kernel) (by decide) (fun q => ?_) (fun q => ?_)
  · replace h := zif_neg q h
    clear q
    obtain rfl := Option.some.inj h
    exact zV_vret rfl (by decide +kernel) (hQ _ rfl hm hW hFr)
  · replace h := zif_pos q h
    clear q
    refine zV_blk (pc' := 42) (lo' := [(0, .ref am), (1, .int x1), (2, .long x2)]) (st' := [.long x2, .ref am]) [.aload_n 0, .lload_n 2] (by decide +kernel) rfl ?_
    obtain ⟨v2, hv2, h⟩ := zbind h
    refine m_cC (idx := 104) (rest := []) hW (cmtakes s0 D cB cI cJ cD am a1 a2 a3 (upd F 13 ((F 13) ||| (1 <<< (x1 &&& 31)))) G tp w oc n x2 v2 hv2) oX12_takes rfl (zT_mem 1585 (by decide +kernel) rfl) (zT_mem 1587 (by decide +kernel) rfl) (zT_mem 31 (by decide +kernel) rfl) rfl rfl (Nat.le_of_ble_eq_true rfl) ⟨by decide, by decide⟩ (by decide +kernel) (fun hm hW hFr2 => ?_)
    replace hFr := hFr.tr hFr2; clear hFr2
    refine zV_eq (st2 := [.int (zb v2.1)]) rfl rfl rfl rfl ?_
    refine zV_bif_ne (tgt := 52) (off := 7) (by decide +kernel) (by decide) (fun q => ?_) (fun q => ?_)
    · replace h := zif_pos q h
      clear q
      obtain rfl := Option.some.inj h
      exact zV_vret rfl (by decide +kernel) (hQ _ rfl hm hW hFr)
    · replace h := zif_neg q h
      clear q
      refine zV_blk (pc' := 49) (lo' := [(0, .ref am), (1, .int x1), (2, .long x2)]) (st' := [.ref am]) [.aload_n 0] (by decide +kernel) rfl ?_
      obtain ⟨v3, hv3, h⟩ := zbind h
      refine m_cC (idx := 107) (rest := []) hW (cmunlike s0 D cB cI cJ cD am a1 a2 a3 v2.2 G tp w oc n  v3 hv3) oX12_unlike rfl (zT_mem 1589 (by decide +kernel) rfl) (zT_mem 1591 (by decide +kernel) rfl) (zT_mem 32 (by decide +kernel) rfl) rfl rfl (Nat.le_of_ble_eq_true rfl) ⟨by decide, by decide⟩ (by decide +kernel) (fun hm hW hFr2 => ?_)
      replace hFr := hFr.tr hFr2; clear hFr2
      refine zV_eq (st2 := []) rfl rfl rfl rfl ?_
      obtain rfl := Option.some.inj h
      exact zV_vret rfl (by decide +kernel) (hQ _ rfl hm hW hFr)
def monce (n : Nat) (F : Nat → Int32) (tp : Nat → Int32) (x1 : Int32) (x2 : Int64) : Option ((Nat → Int32)) := (if ((((F 13) >>> (x1 &&& 31)) &&& 1) : Int32) = (1 : Int32) then (mnext n F tp).bind (fun v1 => (mfail v1.2 3 v1.1).bind (fun v2 => (monce_21 n v2 tp x1 x2))) else (monce_21 n F tp x1 x2))
theorem oX12_once : zO yX12_once cX12_once 4 none 2 := ⟨zT_mem 1580 (by decide +kernel) rfl, zT_mem 94 (by decide +kernel) rfl, by decide +kernel, by decide +kernel, by decide +kernel⟩
set_option maxHeartbeats 4000000 in
set_option maxRecDepth 100000 in
theorem cmonce (s0 : State) (D : va_G) (cB cI cJ cD : ClassId) (am a1 a2 a3 : Nat) (F : Nat → Int32) (G : Nat → Int64) (tp w oc : Nat → Int32) (n : Nat) (x1 : Int32) (x2 : Int64) (x : (Nat → Int32)) (h : monce n F tp x1 x2 = some x) : mC s0 D cB cI cJ cD am a1 a2 a3 yX12_once cX12_once 4 none 4 93 [.int x1, .long x2] F G tp w oc none x G tp w oc := by
  intro hi hm nx Q hW hQ0
  have hQ : ∀ r : (Nat → Int32), x = r → ∀ hm', mW cB cI am a1 a2 a3 r G tp w oc hm' → mFr am a1 a2 a3 hm hm' → Q none hi hm' nx := fun r hr => by subst hr; exact hQ0
  have hFr : mFr am a1 a2 a3 hm hm := mFr.rf
  clear hQ0
  refine zM_of (by decide +kernel) (Nat.le_of_ble_eq_true rfl) ?_
  unfold monce at h
  refine zV_eq (lo2 := [(0, .ref am), (1, .int x1), (2, .long x2)]) rfl rfl rfl rfl ?_
  refine zV_blk (pc' := 1) (lo' := [(0, .ref am), (1, .int x1), (2, .long x2)]) (st' := [.ref am]) [.aload_n 0] (by decide +kernel) rfl ?_
  refine m_get (idx := 122) (k := 13) (v := .int (F 13)) hW m_in12 (by decide) (zT_mem 1453 (by decide +kernel) rfl) rfl (by decide +kernel) ?_
  refine zV_blk (pc' := 9) (lo' := [(0, .ref am), (1, .int x1), (2, .long x2)]) (st' := [.int 1, .int (((F 13) >>> (x1 &&& 31)) &&& 1)]) [.iload_n 1, .ishr, .iconst 1, .iand, .iconst 1] (by decide +kernel) rfl ?_
  refine zV_icmp_ne (tgt := 21) (off := 12) (by decide +kernel) (by decide) (fun q => ?_) (fun q => ?_)
  · replace h := zif_neg q h
    clear q
    refine zV_pick (lo2 := [(0, .ref am), (1, .int x1), (2, .long x2)]) [0, 1, 2] rfl ?_
    exact cmonce_21 s0 D cB cI cJ cD am a1 a2 a3 F G tp w oc n x1 x2 hW hFr h hQ
  · replace h := zif_pos q h
    clear q
    refine zV_blk (pc' := 15) (lo' := [(0, .ref am), (1, .int x1), (2, .long x2)]) (st' := [.ref am, .int 3, .ref am]) [.aload_n 0, .iconst 3, .aload_n 0] (by decide +kernel) rfl ?_
    obtain ⟨v1, hv1, h⟩ := zbind h
    refine m_cC (idx := 75) (rest := [.int 3, .ref am]) hW (cmnext s0 D cB cI cJ cD am a1 a2 a3 F G tp w oc n  v1 hv1) oX12_next rfl (zT_mem 1551 (by decide +kernel) rfl) (zT_mem 1553 (by decide +kernel) rfl) (zT_mem 24 (by decide +kernel) rfl) rfl rfl (Nat.le_of_ble_eq_true rfl) ⟨by decide, by decide⟩ (by decide +kernel) (fun hm hW hFr2 => ?_)
    replace hFr := hFr.tr hFr2; clear hFr2
    refine zV_eq (st2 := [.int v1.1, .int 3, .ref am]) rfl rfl rfl rfl ?_
    obtain ⟨v2, hv2, h⟩ := zbind h
    refine m_cC (idx := 79) (rest := []) hW (cmfail s0 D cB cI cJ cD am a1 a2 a3 v1.2 G tp w oc 3 v1.1 v2 hv2) oX12_fail rfl (zT_mem 1581 (by decide +kernel) rfl) (zT_mem 1583 (by decide +kernel) rfl) (zT_mem 30 (by decide +kernel) rfl) rfl rfl (Nat.le_of_ble_eq_true rfl) ⟨by decide, by decide⟩ (by decide +kernel) (fun hm hW hFr2 => ?_)
    replace hFr := hFr.tr hFr2; clear hFr2
    refine zV_eq (st2 := []) rfl rfl rfl rfl ?_
    refine zV_pick (lo2 := [(0, .ref am), (1, .int x1), (2, .long x2)]) [0, 1, 2] rfl ?_
    exact cmonce_21 s0 D cB cI cJ cD am a1 a2 a3 v2 G tp w oc n x1 x2 hW hFr h hQ

def mshares_53 (n : Nat) (F : Nat → Int32) (tp : Nat → Int32) (w : Nat → Int32) (x1 : Int32) (x2 : Int32) (x5 : Int32) (x7 : Int32) : Option ((Nat → Int32) × (Nat → Int32)) := (mlays F w x1 x5).bind (fun v1 => (mlays F v1 x2 x7).bind (fun v2 => some (F, v2)))
set_option maxHeartbeats 4000000 in
set_option maxRecDepth 100000 in
theorem cmshares_53 (s0 : State) (D : va_G) (cB cI cJ cD : ClassId) (am a1 a2 a3 : Nat) (F : Nat → Int32) (G : Nat → Int64) (tp w oc : Nat → Int32) (n : Nat) (x1 : Int32) (x2 : Int32) (x5 : Int32) (x7 : Int32) {hi hm : zHp} {nx : Nat} {Q : Option Value → zHp → zHp → Nat → Prop} {hm0 : zHp} {x : (Nat → Int32) × (Nat → Int32)} (hW : mW cB cI am a1 a2 a3 F G tp w oc hm) (hFr : mFr am a1 a2 a3 hm0 hm) (h : mshares_53 n F tp w x1 x2 x5 x7 = some x) (hQ : ∀ r : (Nat → Int32) × (Nat → Int32), x = r → ∀ hm', mW cB cI am a1 a2 a3 r.1 G tp r.2 oc hm' → mFr am a1 a2 a3 hm0 hm' → Q none hi hm' nx) : zV s0 D (zty cB cI cJ cD) yX12_shares cX12_shares 8 none 5 115 0 0 53 [(0, .ref am), (1, .int x1), (2, .int x2), (5, .int x5), (7, .int x7)] [] hi hm nx Q := by
  unfold mshares_53 at h
  refine zV_blk (pc' := 57) (lo' := [(0, .ref am), (1, .int x1), (2, .int x2), (5, .int x5), (7, .int x7)]) (st' := [.int x5, .int x1, .ref am]) [.aload_n 0, .iload_n 1, .iload 5] (by decide +kernel) rfl ?_
  obtain ⟨v1, hv1, h⟩ := zbind h
  refine m_cC (idx := 135) (rest := []) hW (cmlays s0 D cB cI cJ cD am a1 a2 a3 F G tp w oc x1 x5 v1 hv1) oX12_lays rfl (zT_mem 1603 (by decide +kernel) rfl) (zT_mem 1605 (by decide +kernel) rfl) (zT_mem 35 (by decide +kernel) rfl) rfl rfl (Nat.le_of_ble_eq_true rfl) ⟨by decide, by decide⟩ (by decide +kernel) (fun hm hW hFr2 => ?_)
  replace hFr := hFr.tr hFr2; clear hFr2
  refine zV_eq (st2 := []) rfl rfl rfl rfl ?_
  refine zV_blk (pc' := 64) (lo' := [(0, .ref am), (1, .int x1), (2, .int x2), (5, .int x5), (7, .int x7)]) (st' := [.int x7, .int x2, .ref am]) [.aload_n 0, .iload_n 2, .iload 7] (by decide +kernel) rfl ?_
  obtain ⟨v2, hv2, h⟩ := zbind h
  refine m_cC (idx := 135) (rest := []) hW (cmlays s0 D cB cI cJ cD am a1 a2 a3 F G tp v1 oc x2 x7 v2 hv2) oX12_lays rfl (zT_mem 1603 (by decide +kernel) rfl) (zT_mem 1605 (by decide +kernel) rfl) (zT_mem 35 (by decide +kernel) rfl) rfl rfl (Nat.le_of_ble_eq_true rfl) ⟨by decide, by decide⟩ (by decide +kernel) (fun hm hW hFr2 => ?_)
  replace hFr := hFr.tr hFr2; clear hFr2
  refine zV_eq (st2 := []) rfl rfl rfl rfl ?_
  obtain rfl := Option.some.inj h
  exact zV_vret rfl (by decide +kernel) (hQ _ rfl hm hW hFr)
def mshares (n : Nat) (F : Nat → Int32) (tp : Nat → Int32) (w : Nat → Int32) (x1 : Int32) (x2 : Int32) (x3 : Int32) (x4 : Int32) : Option ((Nat → Int32) × (Nat → Int32)) := (mreads n F tp 0 x3).bind (fun v1 => (mneeds n v1.2 tp 486).bind (fun v2 => (mreads n v2 tp 1 x3).bind (fun v3 => (misFine v3.2).bind (fun v4 => (if v4 = true then (if (v1.1 : Int32) ≤ ((v3.1 - x4) : Int32) then (mshares_53 n v3.2 tp w x1 x2 v1.1 v3.1) else (mfail v3.2 2 (v1.2 11)).bind (fun v5 => (mshares_53 n v5 tp w x1 x2 v1.1 v3.1))) else (mshares_53 n v3.2 tp w x1 x2 v1.1 v3.1))))))
theorem oX12_shares : zO yX12_shares cX12_shares 8 none 4 := ⟨zT_mem 1616 (by decide +kernel) rfl, zT_mem 94 (by decide +kernel) rfl, by decide +kernel, by decide +kernel, by decide +kernel⟩
set_option maxHeartbeats 4000000 in
set_option maxRecDepth 100000 in
theorem cmshares (s0 : State) (D : va_G) (cB cI cJ cD : ClassId) (am a1 a2 a3 : Nat) (F : Nat → Int32) (G : Nat → Int64) (tp w oc : Nat → Int32) (n : Nat) (x1 : Int32) (x2 : Int32) (x3 : Int32) (x4 : Int32) (x : (Nat → Int32) × (Nat → Int32)) (h : mshares n F tp w x1 x2 x3 x4 = some x) : mC s0 D cB cI cJ cD am a1 a2 a3 yX12_shares cX12_shares 8 none 5 115 [.int x1, .int x2, .int x3, .int x4] F G tp w oc none x.1 G tp x.2 oc := by
  intro hi hm nx Q hW hQ0
  have hQ : ∀ r : (Nat → Int32) × (Nat → Int32), x = r → ∀ hm', mW cB cI am a1 a2 a3 r.1 G tp r.2 oc hm' → mFr am a1 a2 a3 hm hm' → Q none hi hm' nx := fun r hr => by subst hr; exact hQ0
  have hFr : mFr am a1 a2 a3 hm hm := mFr.rf
  clear hQ0
  refine zM_of (by decide +kernel) (Nat.le_of_ble_eq_true rfl) ?_
  unfold mshares at h
  refine zV_eq (lo2 := [(0, .ref am), (1, .int x1), (2, .int x2), (3, .int x3), (4, .int x4)]) rfl rfl rfl rfl ?_
  refine zV_blk (pc' := 3) (lo' := [(0, .ref am), (1, .int x1), (2, .int x2), (3, .int x3), (4, .int x4)]) (st' := [.int x3, .int 0, .ref am]) [.aload_n 0, .iconst 0, .iload_n 3] (by decide +kernel) rfl ?_
  obtain ⟨v1, hv1, h⟩ := zbind h
  refine m_cC (idx := 125) (rest := []) hW (cmreads s0 D cB cI cJ cD am a1 a2 a3 F G tp w oc n 0 x3 v1 hv1) oX12_reads rfl (zT_mem 1593 (by decide +kernel) rfl) (zT_mem 1595 (by decide +kernel) rfl) (zT_mem 33 (by decide +kernel) rfl) rfl rfl (Nat.le_of_ble_eq_true rfl) ⟨by decide, by decide⟩ (by decide +kernel) (fun hm hW hFr2 => ?_)
  replace hFr := hFr.tr hFr2; clear hFr2
  refine zV_eq (st2 := [.int v1.1]) rfl rfl rfl rfl ?_
  refine zV_blk (pc' := 9) (lo' := [(5, .int v1.1), (0, .ref am), (1, .int x1), (2, .int x2), (3, .int x3), (4, .int x4)]) (st' := [.ref am]) [.istore 5, .aload_n 0] (by decide +kernel) rfl ?_
  refine m_get (idx := 113) (k := 11) (v := .int (v1.2 11)) hW m_in12 (by decide) (zT_mem 1451 (by decide +kernel) rfl) rfl (by decide +kernel) ?_
  refine zV_blk (pc' := 15) (lo' := [(6, .int (v1.2 11)), (5, .int v1.1), (0, .ref am), (1, .int x1), (2, .int x2), (3, .int x3), (4, .int x4)]) (st' := [.ref am]) [.istore 6, .aload_n 0] (by decide +kernel) rfl ?_
  refine zV_ldc2 (idx := 129) (v := 486) (zT_mem 1617 (by decide +kernel) rfl) (by decide +kernel) ?_
  obtain ⟨v2, hv2, h⟩ := zbind h
  refine m_cC (idx := 131) (rest := []) hW (cmneeds s0 D cB cI cJ cD am a1 a2 a3 v1.2 G tp w oc n 486 v2 hv2) oX12_needs rfl (zT_mem 1618 (by decide +kernel) rfl) (zT_mem 1620 (by decide +kernel) rfl) (zT_mem 38 (by decide +kernel) rfl) rfl rfl (Nat.le_of_ble_eq_true rfl) ⟨by decide, by decide⟩ (by decide +kernel) (fun hm hW hFr2 => ?_)
  replace hFr := hFr.tr hFr2; clear hFr2
  refine zV_eq (st2 := []) rfl rfl rfl rfl ?_
  refine zV_blk (pc' := 24) (lo' := [(6, .int (v1.2 11)), (5, .int v1.1), (0, .ref am), (1, .int x1), (2, .int x2), (3, .int x3), (4, .int x4)]) (st' := [.int x3, .int 1, .ref am]) [.aload_n 0, .iconst 1, .iload_n 3] (by decide +kernel) rfl ?_
  obtain ⟨v3, hv3, h⟩ := zbind h
  refine m_cC (idx := 125) (rest := []) hW (cmreads s0 D cB cI cJ cD am a1 a2 a3 v2 G tp w oc n 1 x3 v3 hv3) oX12_reads rfl (zT_mem 1593 (by decide +kernel) rfl) (zT_mem 1595 (by decide +kernel) rfl) (zT_mem 33 (by decide +kernel) rfl) rfl rfl (Nat.le_of_ble_eq_true rfl) ⟨by decide, by decide⟩ (by decide +kernel) (fun hm hW hFr2 => ?_)
  replace hFr := hFr.tr hFr2; clear hFr2
  refine zV_eq (st2 := [.int v3.1]) rfl rfl rfl rfl ?_
  refine zV_blk (pc' := 30) (lo' := [(7, .int v3.1), (6, .int (v1.2 11)), (5, .int v1.1), (0, .ref am), (1, .int x1), (2, .int x2), (3, .int x3), (4, .int x4)]) (st' := [.ref am]) [.istore 7, .aload_n 0] (by decide +kernel) rfl ?_
  obtain ⟨v4, hv4, h⟩ := zbind h
  refine m_cR (idx := 86) (rest := []) hW (cmisFine s0 D cB cI cJ cD am a1 a2 a3 v3.2 G tp w oc  v4 hv4) oX12_isFine rfl (zT_mem 1547 (by decide +kernel) rfl) (zT_mem 1549 (by decide +kernel) rfl) (zT_mem 23 (by decide +kernel) rfl) rfl rfl (Nat.le_of_ble_eq_true rfl) ⟨by decide, by decide⟩ (by decide +kernel) ?_
  refine zV_eq (st2 := [.int (zb v4)]) rfl rfl rfl rfl ?_
  refine zV_bif_eq (tgt := 53) (off := 20) (by decide +kernel) (by decide) (fun q => ?_) (fun q => ?_)
  · replace h := zif_neg q h
    clear q
    refine zV_pick (lo2 := [(0, .ref am), (1, .int x1), (2, .int x2), (5, .int v1.1), (7, .int v3.1)]) [3, 4, 5, 2, 0] rfl ?_
    exact cmshares_53 s0 D cB cI cJ cD am a1 a2 a3 v3.2 G tp w oc n x1 x2 v1.1 v3.1 hW hFr h hQ
  · replace h := zif_pos q h
    clear q
    refine zV_blk (pc' := 43) (lo' := [(7, .int v3.1), (6, .int (v1.2 11)), (5, .int v1.1), (0, .ref am), (1, .int x1), (2, .int x2), (3, .int x3), (4, .int x4)]) (st' := [.int (v3.1 - x4), .int v1.1]) [.iload 5, .iload 7, .iload 4, .isub] (by decide +kernel) rfl ?_
    refine zV_icmp_le (tgt := 53) (off := 10) (by decide +kernel) (by decide) (fun q => ?_) (fun q => ?_)
    · replace h := zif_pos q h
      clear q
      refine zV_pick (lo2 := [(0, .ref am), (1, .int x1), (2, .int x2), (5, .int v1.1), (7, .int v3.1)]) [3, 4, 5, 2, 0] rfl ?_
      exact cmshares_53 s0 D cB cI cJ cD am a1 a2 a3 v3.2 G tp w oc n x1 x2 v1.1 v3.1 hW hFr h hQ
    · replace h := zif_neg q h
      clear q
      refine zV_blk (pc' := 50) (lo' := [(7, .int v3.1), (6, .int (v1.2 11)), (5, .int v1.1), (0, .ref am), (1, .int x1), (2, .int x2), (3, .int x3), (4, .int x4)]) (st' := [.int (v1.2 11), .int 2, .ref am]) [.aload_n 0, .iconst 2, .iload 6] (by decide +kernel) rfl ?_
      obtain ⟨v5, hv5, h⟩ := zbind h
      refine m_cC (idx := 79) (rest := []) hW (cmfail s0 D cB cI cJ cD am a1 a2 a3 v3.2 G tp w oc 2 (v1.2 11) v5 hv5) oX12_fail rfl (zT_mem 1581 (by decide +kernel) rfl) (zT_mem 1583 (by decide +kernel) rfl) (zT_mem 30 (by decide +kernel) rfl) rfl rfl (Nat.le_of_ble_eq_true rfl) ⟨by decide, by decide⟩ (by decide +kernel) (fun hm hW hFr2 => ?_)
      replace hFr := hFr.tr hFr2; clear hFr2
      refine zV_eq (st2 := []) rfl rfl rfl rfl ?_
      refine zV_pick (lo2 := [(0, .ref am), (1, .int x1), (2, .int x2), (5, .int v1.1), (7, .int v3.1)]) [3, 4, 5, 2, 0] rfl ?_
      exact cmshares_53 s0 D cB cI cJ cD am a1 a2 a3 v5 G tp w oc n x1 x2 v1.1 v3.1 hW hFr h hQ

