def mapart_161 (n : Nat) (F : Nat → Int32) (w : Nat → Int32) (x1 : Int32) (x2 : Int32) (x4 : Int32) (x5 : Int32) (x6 : Int32) (x7 : Int32) (x8 : Int64) (x10 : Int32) (x11 : Int32) : Option ((Int32 × Int32 × Int64 × Int32 × Int32) ⊕ (Int64 × (Nat → Int32))) := some (.inl (x6, x7, x8, x10, (x11 + 1)))
set_option maxHeartbeats 4000000 in
set_option maxRecDepth 100000 in
theorem cmapart_161 (s0 : State) (D : va_G) (cB cI cJ cD : ClassId) (am a1 a2 a3 : Nat) (F : Nat → Int32) (G : Nat → Int64) (tp w oc : Nat → Int32) (n : Nat) (x1 : Int32) (x2 : Int32) (x4 : Int32) (x5 : Int32) (x6 : Int32) (x7 : Int32) (x8 : Int64) (x10 : Int32) (x11 : Int32) {hi hm : zHp} {nx : Nat} {Q : Option Value → zHp → zHp → Nat → Prop} {hm0 : zHp} {x : (Int32 × Int32 × Int64 × Int32 × Int32) ⊕ (Int64 × (Nat → Int32))} (hW : mW cB cI am a1 a2 a3 F G tp w oc hm) (hFr : mFr am a1 a2 a3 hm0 hm) (h : mapart_161 n F w x1 x2 x4 x5 x6 x7 x8 x10 x11 = some x) (hL64 : ∀ s : Int32 × Int32 × Int64 × Int32 × Int32, x = (.inl s) → ∀ hm', mW cB cI am a1 a2 a3 F G tp w oc hm' → mFr am a1 a2 a3 hm0 hm' → zV s0 D (zty cB cI cJ cD) yX12_apart cX12_apart 14 (some .long) 4 97 0 0 64 [(0, .ref am), (1, .int x1), (2, .int x2), (4, .int x4), (5, .int x5), (6, .int s.1), (7, .int s.2.1), (8, .long s.2.2.1), (10, .int s.2.2.2.1), (11, .int s.2.2.2.2)] [] hi hm' nx Q) (hQ : ∀ r : Int64 × (Nat → Int32), x = (.inr r) → ∀ hm', mW cB cI am a1 a2 a3 r.2 G tp w oc hm' → mFr am a1 a2 a3 hm0 hm' → Q (some (.long r.1)) hi hm' nx) : zV s0 D (zty cB cI cJ cD) yX12_apart cX12_apart 14 (some .long) 4 97 0 0 161 [(0, .ref am), (1, .int x1), (2, .int x2), (4, .int x4), (5, .int x5), (6, .int x6), (7, .int x7), (8, .long x8), (10, .int x10), (11, .int x11)] [] hi hm nx Q := by
  unfold mapart_161 at h
  refine zV_blk (pc' := 164) (lo' := [(11, .int (x11 + 1)), (0, .ref am), (1, .int x1), (2, .int x2), (4, .int x4), (5, .int x5), (6, .int x6), (7, .int x7), (8, .long x8), (10, .int x10)]) (st' := []) [.iinc 11 1] (by decide +kernel) rfl ?_
  refine zV_goto (tgt := 64) (off := -100) (by decide +kernel) (by decide) ?_
  obtain rfl := Option.some.inj h
  refine zV_pick (lo2 := [(0, .ref am), (1, .int x1), (2, .int x2), (4, .int x4), (5, .int x5), (6, .int x6), (7, .int x7), (8, .long x8), (10, .int x10), (11, .int (x11 + 1))]) [1, 2, 3, 4, 5, 6, 7, 8, 9, 0] rfl ?_
  exact hL64 _ rfl hm hW hFr
def mapart_114 (n : Nat) (F : Nat → Int32) (w : Nat → Int32) (x1 : Int32) (x2 : Int32) (x4 : Int32) (x5 : Int32) (x6 : Int32) (x7 : Int32) (x8 : Int64) (x10 : Int32) (x11 : Int32) : Option ((Int32 × Int32 × Int64 × Int32 × Int32) ⊕ (Int64 × (Nat → Int32))) := (mbank x1).bind (fun v1 => (mstartOf n w v1 (x11 : Int32).toInt64).bind (fun v2 => (mbank x2).bind (fun v3 => (mstartOf n w v3 (x11 : Int32).toInt64).bind (fun v4 => (msize (v2 - v4)).bind (fun v5 => (if (x8 : Int64) < (v5 : Int64) then (mapart_161 n F w x1 x2 x4 x5 x6 x7 v5 x11 x11) else (mapart_161 n F w x1 x2 x4 x5 x6 x7 x8 x10 x11)))))))
set_option maxHeartbeats 4000000 in
set_option maxRecDepth 100000 in
theorem cmapart_114 (s0 : State) (D : va_G) (cB cI cJ cD : ClassId) (am a1 a2 a3 : Nat) (F : Nat → Int32) (G : Nat → Int64) (tp w oc : Nat → Int32) (n : Nat) (x1 : Int32) (x2 : Int32) (x4 : Int32) (x5 : Int32) (x6 : Int32) (x7 : Int32) (x8 : Int64) (x10 : Int32) (x11 : Int32) {hi hm : zHp} {nx : Nat} {Q : Option Value → zHp → zHp → Nat → Prop} {hm0 : zHp} {x : (Int32 × Int32 × Int64 × Int32 × Int32) ⊕ (Int64 × (Nat → Int32))} (hW : mW cB cI am a1 a2 a3 F G tp w oc hm) (hFr : mFr am a1 a2 a3 hm0 hm) (h : mapart_114 n F w x1 x2 x4 x5 x6 x7 x8 x10 x11 = some x) (hL64 : ∀ s : Int32 × Int32 × Int64 × Int32 × Int32, x = (.inl s) → ∀ hm', mW cB cI am a1 a2 a3 F G tp w oc hm' → mFr am a1 a2 a3 hm0 hm' → zV s0 D (zty cB cI cJ cD) yX12_apart cX12_apart 14 (some .long) 4 97 0 0 64 [(0, .ref am), (1, .int x1), (2, .int x2), (4, .int x4), (5, .int x5), (6, .int s.1), (7, .int s.2.1), (8, .long s.2.2.1), (10, .int s.2.2.2.1), (11, .int s.2.2.2.2)] [] hi hm' nx Q) (hQ : ∀ r : Int64 × (Nat → Int32), x = (.inr r) → ∀ hm', mW cB cI am a1 a2 a3 r.2 G tp w oc hm' → mFr am a1 a2 a3 hm0 hm' → Q (some (.long r.1)) hi hm' nx) : zV s0 D (zty cB cI cJ cD) yX12_apart cX12_apart 14 (some .long) 4 97 0 0 114 [(0, .ref am), (1, .int x1), (2, .int x2), (4, .int x4), (5, .int x5), (6, .int x6), (7, .int x7), (8, .long x8), (10, .int x10), (11, .int x11)] [] hi hm nx Q := by
  unfold mapart_114 at h
  refine zV_blk (pc' := 116) (lo' := [(0, .ref am), (1, .int x1), (2, .int x2), (4, .int x4), (5, .int x5), (6, .int x6), (7, .int x7), (8, .long x8), (10, .int x10), (11, .int x11)]) (st' := [.int x1, .ref am]) [.aload_n 0, .iload_n 1] (by decide +kernel) rfl ?_
  obtain ⟨v1, hv1, h⟩ := zbind h
  refine zV_sC (idx := 118) (rest := [.ref am]) (cmbank s0 D cB cI cJ cD x1 v1 hv1) oX12_bank (zT_mem 1671 (by decide +kernel) rfl) (zT_mem 1672 (by decide +kernel) rfl) rfl rfl (Nat.le_of_ble_eq_true rfl) ⟨by decide, by decide⟩ (by decide +kernel) ?_
  refine zV_eq (st2 := [.int v1, .ref am]) rfl rfl rfl rfl ?_
  refine zV_blk (pc' := 122) (lo' := [(0, .ref am), (1, .int x1), (2, .int x2), (4, .int x4), (5, .int x5), (6, .int x6), (7, .int x7), (8, .long x8), (10, .int x10), (11, .int x11)]) (st' := [.long (x11 : Int32).toInt64, .int v1, .ref am]) [.iload 11, .i2l] (by decide +kernel) rfl ?_
  obtain ⟨v2, hv2, h⟩ := zbind h
  refine m_cR (idx := 244) (rest := []) hW (cmstartOf s0 D cB cI cJ cD am a1 a2 a3 F G tp w oc n v1 (x11 : Int32).toInt64 v2 hv2) oX12_startOf rfl (zT_mem 1742 (by decide +kernel) rfl) (zT_mem 1744 (by decide +kernel) rfl) (zT_mem 56 (by decide +kernel) rfl) rfl rfl (Nat.le_of_ble_eq_true rfl) ⟨by decide, by decide⟩ (by decide +kernel) ?_
  refine zV_eq (st2 := [.long v2]) rfl rfl rfl rfl ?_
  refine zV_blk (pc' := 127) (lo' := [(0, .ref am), (1, .int x1), (2, .int x2), (4, .int x4), (5, .int x5), (6, .int x6), (7, .int x7), (8, .long x8), (10, .int x10), (11, .int x11)]) (st' := [.int x2, .ref am, .long v2]) [.aload_n 0, .iload_n 2] (by decide +kernel) rfl ?_
  obtain ⟨v3, hv3, h⟩ := zbind h
  refine zV_sC (idx := 118) (rest := [.ref am, .long v2]) (cmbank s0 D cB cI cJ cD x2 v3 hv3) oX12_bank (zT_mem 1671 (by decide +kernel) rfl) (zT_mem 1672 (by decide +kernel) rfl) rfl rfl (Nat.le_of_ble_eq_true rfl) ⟨by decide, by decide⟩ (by decide +kernel) ?_
  refine zV_eq (st2 := [.int v3, .ref am, .long v2]) rfl rfl rfl rfl ?_
  refine zV_blk (pc' := 133) (lo' := [(0, .ref am), (1, .int x1), (2, .int x2), (4, .int x4), (5, .int x5), (6, .int x6), (7, .int x7), (8, .long x8), (10, .int x10), (11, .int x11)]) (st' := [.long (x11 : Int32).toInt64, .int v3, .ref am, .long v2]) [.iload 11, .i2l] (by decide +kernel) rfl ?_
  obtain ⟨v4, hv4, h⟩ := zbind h
  refine m_cR (idx := 244) (rest := [.long v2]) hW (cmstartOf s0 D cB cI cJ cD am a1 a2 a3 F G tp w oc n v3 (x11 : Int32).toInt64 v4 hv4) oX12_startOf rfl (zT_mem 1742 (by decide +kernel) rfl) (zT_mem 1744 (by decide +kernel) rfl) (zT_mem 56 (by decide +kernel) rfl) rfl rfl (Nat.le_of_ble_eq_true rfl) ⟨by decide, by decide⟩ (by decide +kernel) ?_
  refine zV_eq (st2 := [.long v4, .long v2]) rfl rfl rfl rfl ?_
  refine zV_blk (pc' := 137) (lo' := [(0, .ref am), (1, .int x1), (2, .int x2), (4, .int x4), (5, .int x5), (6, .int x6), (7, .int x7), (8, .long x8), (10, .int x10), (11, .int x11)]) (st' := [.long (v2 - v4)]) [.lsub] (by decide +kernel) rfl ?_
  obtain ⟨v5, hv5, h⟩ := zbind h
  refine zV_sC (idx := 32) (rest := []) (cmsize s0 D cB cI cJ cD (v2 - v4) v5 hv5) oX12_size (zT_mem 1739 (by decide +kernel) rfl) (zT_mem 1740 (by decide +kernel) rfl) rfl rfl (Nat.le_of_ble_eq_true rfl) ⟨by decide, by decide⟩ (by decide +kernel) ?_
  refine zV_eq (st2 := [.long v5]) rfl rfl rfl rfl ?_
  refine zV_blk (pc' := 147) (lo' := [(12, .long v5), (0, .ref am), (1, .int x1), (2, .int x2), (4, .int x4), (5, .int x5), (6, .int x6), (7, .int x7), (8, .long x8), (10, .int x10), (11, .int x11)]) (st' := [.int (lg_cmp v5 x8)]) [.lstore 12, .lload 12, .lload 8, .lcmp] (by decide +kernel) rfl ?_
  refine zV_lcmp_gt (tgt := 153) (off := 6) (by decide +kernel) (by decide) (fun q => ?_) (fun q => ?_)
  · replace h := zif_pos q h
    clear q
    refine zV_blk (pc' := 161) (lo' := [(10, .int x11), (8, .long v5), (12, .long v5), (0, .ref am), (1, .int x1), (2, .int x2), (4, .int x4), (5, .int x5), (6, .int x6), (7, .int x7), (11, .int x11)]) (st' := []) [.lload 12, .lstore 8, .iload 11, .istore 10] (by decide +kernel) rfl ?_
    refine zV_pick (lo2 := [(0, .ref am), (1, .int x1), (2, .int x2), (4, .int x4), (5, .int x5), (6, .int x6), (7, .int x7), (8, .long v5), (10, .int x11), (11, .int x11)]) [3, 4, 5, 6, 7, 8, 9, 1, 0, 10] rfl ?_
    exact cmapart_161 s0 D cB cI cJ cD am a1 a2 a3 F G tp w oc n x1 x2 x4 x5 x6 x7 v5 x11 x11 hW hFr h hL64 hQ
  · replace h := zif_neg q h
    clear q
    refine zV_goto (tgt := 161) (off := 11) (by decide +kernel) (by decide) ?_
    refine zV_pick (lo2 := [(0, .ref am), (1, .int x1), (2, .int x2), (4, .int x4), (5, .int x5), (6, .int x6), (7, .int x7), (8, .long x8), (10, .int x10), (11, .int x11)]) [1, 2, 3, 4, 5, 6, 7, 8, 9, 10] rfl ?_
    exact cmapart_161 s0 D cB cI cJ cD am a1 a2 a3 F G tp w oc n x1 x2 x4 x5 x6 x7 x8 x10 x11 hW hFr h hL64 hQ
def mapart_112 (n : Nat) (F : Nat → Int32) (w : Nat → Int32) (x1 : Int32) (x2 : Int32) (x4 : Int32) (x5 : Int32) (x6 : Int32) (x8 : Int64) (x10 : Int32) (x11 : Int32) (t0 : Int32) : Option ((Int32 × Int32 × Int64 × Int32 × Int32) ⊕ (Int64 × (Nat → Int32))) := (mapart_114 n F w x1 x2 x4 x5 x6 t0 x8 x10 x11)
set_option maxHeartbeats 4000000 in
set_option maxRecDepth 100000 in
theorem cmapart_112 (s0 : State) (D : va_G) (cB cI cJ cD : ClassId) (am a1 a2 a3 : Nat) (F : Nat → Int32) (G : Nat → Int64) (tp w oc : Nat → Int32) (n : Nat) (x1 : Int32) (x2 : Int32) (x4 : Int32) (x5 : Int32) (x6 : Int32) (x8 : Int64) (x10 : Int32) (x11 : Int32) (t0 : Int32) {hi hm : zHp} {nx : Nat} {Q : Option Value → zHp → zHp → Nat → Prop} {hm0 : zHp} {x : (Int32 × Int32 × Int64 × Int32 × Int32) ⊕ (Int64 × (Nat → Int32))} (hW : mW cB cI am a1 a2 a3 F G tp w oc hm) (hFr : mFr am a1 a2 a3 hm0 hm) (h : mapart_112 n F w x1 x2 x4 x5 x6 x8 x10 x11 t0 = some x) (hL64 : ∀ s : Int32 × Int32 × Int64 × Int32 × Int32, x = (.inl s) → ∀ hm', mW cB cI am a1 a2 a3 F G tp w oc hm' → mFr am a1 a2 a3 hm0 hm' → zV s0 D (zty cB cI cJ cD) yX12_apart cX12_apart 14 (some .long) 4 97 0 0 64 [(0, .ref am), (1, .int x1), (2, .int x2), (4, .int x4), (5, .int x5), (6, .int s.1), (7, .int s.2.1), (8, .long s.2.2.1), (10, .int s.2.2.2.1), (11, .int s.2.2.2.2)] [] hi hm' nx Q) (hQ : ∀ r : Int64 × (Nat → Int32), x = (.inr r) → ∀ hm', mW cB cI am a1 a2 a3 r.2 G tp w oc hm' → mFr am a1 a2 a3 hm0 hm' → Q (some (.long r.1)) hi hm' nx) : zV s0 D (zty cB cI cJ cD) yX12_apart cX12_apart 14 (some .long) 4 97 0 0 112 [(0, .ref am), (1, .int x1), (2, .int x2), (4, .int x4), (5, .int x5), (6, .int x6), (8, .long x8), (10, .int x10), (11, .int x11)] [.int t0] hi hm nx Q := by
  unfold mapart_112 at h
  refine zV_blk (pc' := 114) (lo' := [(7, .int t0), (0, .ref am), (1, .int x1), (2, .int x2), (4, .int x4), (5, .int x5), (6, .int x6), (8, .long x8), (10, .int x10), (11, .int x11)]) (st' := []) [.istore 7] (by decide +kernel) rfl ?_
  refine zV_pick (lo2 := [(0, .ref am), (1, .int x1), (2, .int x2), (4, .int x4), (5, .int x5), (6, .int x6), (7, .int t0), (8, .long x8), (10, .int x10), (11, .int x11)]) [1, 2, 3, 4, 5, 6, 0, 7, 8, 9] rfl ?_
  exact cmapart_114 s0 D cB cI cJ cD am a1 a2 a3 F G tp w oc n x1 x2 x4 x5 x6 t0 x8 x10 x11 hW hFr h hL64 hQ
def mapart_64 (n : Nat) (F : Nat → Int32) (w : Nat → Int32) (x1 : Int32) (x2 : Int32) (x4 : Int32) (x5 : Int32) (s : Int32 × Int32 × Int64 × Int32 × Int32) : Option ((Int32 × Int32 × Int64 × Int32 × Int32) ⊕ (Int64 × (Nat → Int32))) := (if (x4 : Int32) < (s.2.2.2.2 : Int32) then (if (x5 : Int32) = (0 : Int32) then some (.inr ((s.1 : Int32).toInt64, F)) else (if (x5 : Int32) = (1 : Int32) then some (.inr ((s.2.1 : Int32).toInt64, F)) else (if (x5 : Int32) = (2 : Int32) then some (.inr (s.2.2.1, F)) else some (.inr ((s.2.2.2.1 : Int32).toInt64, F))))) else (mbank x1).bind (fun v1 => (misLeap n w v1 (s.2.2.2.2 : Int32).toInt64).bind (fun v2 => (mbank x2).bind (fun v3 => (misLeap n w v3 (s.2.2.2.2 : Int32).toInt64).bind (fun v4 => (if ((zb v2) : Int32) = ((zb v4) : Int32) then (mapart_114 n F w x1 x2 x4 x5 s.1 s.2.1 s.2.2.1 s.2.2.2.1 s.2.2.2.2) else (if ((s.1 + 1) : Int32) = (1 : Int32) then (mapart_112 n F w x1 x2 x4 x5 (s.1 + 1) s.2.2.1 s.2.2.2.1 s.2.2.2.2 s.2.2.2.2) else (mapart_112 n F w x1 x2 x4 x5 (s.1 + 1) s.2.2.1 s.2.2.2.1 s.2.2.2.2 s.2.1))))))))
set_option maxHeartbeats 4000000 in
set_option maxRecDepth 100000 in
theorem cmapart_64 (s0 : State) (D : va_G) (cB cI cJ cD : ClassId) (am a1 a2 a3 : Nat) (F : Nat → Int32) (G : Nat → Int64) (tp : Nat → Int32) (w : Nat → Int32) (oc : Nat → Int32) (n : Nat) (x1 : Int32) (x2 : Int32) (x4 : Int32) (x5 : Int32) (s : Int32 × Int32 × Int64 × Int32 × Int32) (x : (Int32 × Int32 × Int64 × Int32 × Int32) ⊕ (Int64 × (Nat → Int32))) {hi hm : zHp} {nx : Nat} {Q : Option Value → zHp → zHp → Nat → Prop} {hm0 : zHp} (hW : mW cB cI am a1 a2 a3 F G tp w oc hm) (hFr : mFr am a1 a2 a3 hm0 hm) (h : mapart_64 n F w x1 x2 x4 x5 s = some x) (hL64 : ∀ s : Int32 × Int32 × Int64 × Int32 × Int32, x = (.inl s) → ∀ hm', mW cB cI am a1 a2 a3 F G tp w oc hm' → mFr am a1 a2 a3 hm0 hm' → zV s0 D (zty cB cI cJ cD) yX12_apart cX12_apart 14 (some .long) 4 97 0 0 64 [(0, .ref am), (1, .int x1), (2, .int x2), (4, .int x4), (5, .int x5), (6, .int s.1), (7, .int s.2.1), (8, .long s.2.2.1), (10, .int s.2.2.2.1), (11, .int s.2.2.2.2)] [] hi hm' nx Q) (hQ : ∀ r : Int64 × (Nat → Int32), x = (.inr r) → ∀ hm', mW cB cI am a1 a2 a3 r.2 G tp w oc hm' → mFr am a1 a2 a3 hm0 hm' → Q (some (.long r.1)) hi hm' nx) : zV s0 D (zty cB cI cJ cD) yX12_apart cX12_apart 14 (some .long) 4 97 0 0 64 [(0, .ref am), (1, .int x1), (2, .int x2), (4, .int x4), (5, .int x5), (6, .int s.1), (7, .int s.2.1), (8, .long s.2.2.1), (10, .int s.2.2.2.1), (11, .int s.2.2.2.2)] [] hi hm nx Q := by
  unfold mapart_64 at h
  refine zV_blk (pc' := 68) (lo' := [(0, .ref am), (1, .int x1), (2, .int x2), (4, .int x4), (5, .int x5), (6, .int s.1), (7, .int s.2.1), (8, .long s.2.2.1), (10, .int s.2.2.2.1), (11, .int s.2.2.2.2)]) (st' := [.int x4, .int s.2.2.2.2]) [.iload 11, .iload 4] (by decide +kernel) rfl ?_
  refine zV_icmp_gt (tgt := 167) (off := 99) (by decide +kernel) (by decide) (fun q => ?_) (fun q => ?_)
  · replace h := zif_pos q h
    clear q
    refine zV_blk (pc' := 169) (lo' := [(0, .ref am), (1, .int x1), (2, .int x2), (4, .int x4), (5, .int x5), (6, .int s.1), (7, .int s.2.1), (8, .long s.2.2.1), (10, .int s.2.2.2.1), (11, .int s.2.2.2.2)]) (st' := [.int x5]) [.iload 5] (by decide +kernel) rfl ?_
    refine zV_if_ne (tgt := 178) (off := 9) (by decide +kernel) (by decide) (fun q => ?_) (fun q => ?_)
    · replace h := zif_neg q h
      clear q
      refine zV_blk (pc' := 181) (lo' := [(0, .ref am), (1, .int x1), (2, .int x2), (4, .int x4), (5, .int x5), (6, .int s.1), (7, .int s.2.1), (8, .long s.2.2.1), (10, .int s.2.2.2.1), (11, .int s.2.2.2.2)]) (st' := [.int 1, .int x5]) [.iload 5, .iconst 1] (by decide +kernel) rfl ?_
      refine zV_icmp_ne (tgt := 190) (off := 9) (by decide +kernel) (by decide) (fun q => ?_) (fun q => ?_)
      · replace h := zif_neg q h
        clear q
        refine zV_blk (pc' := 193) (lo' := [(0, .ref am), (1, .int x1), (2, .int x2), (4, .int x4), (5, .int x5), (6, .int s.1), (7, .int s.2.1), (8, .long s.2.2.1), (10, .int s.2.2.2.1), (11, .int s.2.2.2.2)]) (st' := [.int 2, .int x5]) [.iload 5, .iconst 2] (by decide +kernel) rfl ?_
        refine zV_icmp_ne (tgt := 201) (off := 8) (by decide +kernel) (by decide) (fun q => ?_) (fun q => ?_)
        · replace h := zif_neg q h
          clear q
          refine zV_blk (pc' := 204) (lo' := [(0, .ref am), (1, .int x1), (2, .int x2), (4, .int x4), (5, .int x5), (6, .int s.1), (7, .int s.2.1), (8, .long s.2.2.1), (10, .int s.2.2.2.1), (11, .int s.2.2.2.2)]) (st' := [.long (s.2.2.2.1 : Int32).toInt64]) [.iload 10, .i2l] (by decide +kernel) rfl ?_
          obtain rfl := Option.some.inj h
          exact zV_lret rfl (by decide +kernel) (hQ _ rfl hm hW hFr)
        · replace h := zif_pos q h
          clear q
          refine zV_blk (pc' := 198) (lo' := [(0, .ref am), (1, .int x1), (2, .int x2), (4, .int x4), (5, .int x5), (6, .int s.1), (7, .int s.2.1), (8, .long s.2.2.1), (10, .int s.2.2.2.1), (11, .int s.2.2.2.2)]) (st' := [.long s.2.2.1]) [.lload 8] (by decide +kernel) rfl ?_
          refine zV_goto (tgt := 204) (off := 6) (by decide +kernel) (by decide) ?_
          obtain rfl := Option.some.inj h
          exact zV_lret rfl (by decide +kernel) (hQ _ rfl hm hW hFr)
      · replace h := zif_pos q h
        clear q
        refine zV_blk (pc' := 187) (lo' := [(0, .ref am), (1, .int x1), (2, .int x2), (4, .int x4), (5, .int x5), (6, .int s.1), (7, .int s.2.1), (8, .long s.2.2.1), (10, .int s.2.2.2.1), (11, .int s.2.2.2.2)]) (st' := [.long (s.2.1 : Int32).toInt64]) [.iload 7, .i2l] (by decide +kernel) rfl ?_
        refine zV_goto (tgt := 204) (off := 17) (by decide +kernel) (by decide) ?_
        obtain rfl := Option.some.inj h
        exact zV_lret rfl (by decide +kernel) (hQ _ rfl hm hW hFr)
    · replace h := zif_pos q h
      clear q
      refine zV_blk (pc' := 175) (lo' := [(0, .ref am), (1, .int x1), (2, .int x2), (4, .int x4), (5, .int x5), (6, .int s.1), (7, .int s.2.1), (8, .long s.2.2.1), (10, .int s.2.2.2.1), (11, .int s.2.2.2.2)]) (st' := [.long (s.1 : Int32).toInt64]) [.iload 6, .i2l] (by decide +kernel) rfl ?_
      refine zV_goto (tgt := 204) (off := 29) (by decide +kernel) (by decide) ?_
      obtain rfl := Option.some.inj h
      exact zV_lret rfl (by decide +kernel) (hQ _ rfl hm hW hFr)
  · replace h := zif_neg q h
    clear q
    refine zV_blk (pc' := 73) (lo' := [(0, .ref am), (1, .int x1), (2, .int x2), (4, .int x4), (5, .int x5), (6, .int s.1), (7, .int s.2.1), (8, .long s.2.2.1), (10, .int s.2.2.2.1), (11, .int s.2.2.2.2)]) (st' := [.int x1, .ref am]) [.aload_n 0, .iload_n 1] (by decide +kernel) rfl ?_
    obtain ⟨v1, hv1, h⟩ := zbind h
    refine zV_sC (idx := 118) (rest := [.ref am]) (cmbank s0 D cB cI cJ cD x1 v1 hv1) oX12_bank (zT_mem 1671 (by decide +kernel) rfl) (zT_mem 1672 (by decide +kernel) rfl) rfl rfl (Nat.le_of_ble_eq_true rfl) ⟨by decide, by decide⟩ (by decide +kernel) ?_
    refine zV_eq (st2 := [.int v1, .ref am]) rfl rfl rfl rfl ?_
    refine zV_blk (pc' := 79) (lo' := [(0, .ref am), (1, .int x1), (2, .int x2), (4, .int x4), (5, .int x5), (6, .int s.1), (7, .int s.2.1), (8, .long s.2.2.1), (10, .int s.2.2.2.1), (11, .int s.2.2.2.2)]) (st' := [.long (s.2.2.2.2 : Int32).toInt64, .int v1, .ref am]) [.iload 11, .i2l] (by decide +kernel) rfl ?_
    obtain ⟨v2, hv2, h⟩ := zbind h
    refine m_cR (idx := 236) (rest := []) hW (cmisLeap s0 D cB cI cJ cD am a1 a2 a3 F G tp w oc n v1 (s.2.2.2.2 : Int32).toInt64 v2 hv2) oX12_isLeap rfl (zT_mem 1805 (by decide +kernel) rfl) (zT_mem 1807 (by decide +kernel) rfl) (zT_mem 64 (by decide +kernel) rfl) rfl rfl (Nat.le_of_ble_eq_true rfl) ⟨by decide, by decide⟩ (by decide +kernel) ?_
    refine zV_eq (st2 := [.int (zb v2)]) rfl rfl rfl rfl ?_
    refine zV_blk (pc' := 84) (lo' := [(0, .ref am), (1, .int x1), (2, .int x2), (4, .int x4), (5, .int x5), (6, .int s.1), (7, .int s.2.1), (8, .long s.2.2.1), (10, .int s.2.2.2.1), (11, .int s.2.2.2.2)]) (st' := [.int x2, .ref am, .int (zb v2)]) [.aload_n 0, .iload_n 2] (by decide +kernel) rfl ?_
    obtain ⟨v3, hv3, h⟩ := zbind h
    refine zV_sC (idx := 118) (rest := [.ref am, .int (zb v2)]) (cmbank s0 D cB cI cJ cD x2 v3 hv3) oX12_bank (zT_mem 1671 (by decide +kernel) rfl) (zT_mem 1672 (by decide +kernel) rfl) rfl rfl (Nat.le_of_ble_eq_true rfl) ⟨by decide, by decide⟩ (by decide +kernel) ?_
    refine zV_eq (st2 := [.int v3, .ref am, .int (zb v2)]) rfl rfl rfl rfl ?_
    refine zV_blk (pc' := 90) (lo' := [(0, .ref am), (1, .int x1), (2, .int x2), (4, .int x4), (5, .int x5), (6, .int s.1), (7, .int s.2.1), (8, .long s.2.2.1), (10, .int s.2.2.2.1), (11, .int s.2.2.2.2)]) (st' := [.long (s.2.2.2.2 : Int32).toInt64, .int v3, .ref am, .int (zb v2)]) [.iload 11, .i2l] (by decide +kernel) rfl ?_
    obtain ⟨v4, hv4, h⟩ := zbind h
    refine m_cR (idx := 236) (rest := [.int (zb v2)]) hW (cmisLeap s0 D cB cI cJ cD am a1 a2 a3 F G tp w oc n v3 (s.2.2.2.2 : Int32).toInt64 v4 hv4) oX12_isLeap rfl (zT_mem 1805 (by decide +kernel) rfl) (zT_mem 1807 (by decide +kernel) rfl) (zT_mem 64 (by decide +kernel) rfl) rfl rfl (Nat.le_of_ble_eq_true rfl) ⟨by decide, by decide⟩ (by decide +kernel) ?_
    refine zV_eq (st2 := [.int (zb v4), .int (zb v2)]) rfl rfl rfl rfl ?_
    refine zV_icmp_eq (tgt := 114) (off := 21) (by decide +kernel) (by decide) (fun q => ?_) (fun q => ?_)
    · replace h := zif_pos q h
      clear q
      refine zV_pick (lo2 := [(0, .ref am), (1, .int x1), (2, .int x2), (4, .int x4), (5, .int x5), (6, .int s.1), (7, .int s.2.1), (8, .long s.2.2.1), (10, .int s.2.2.2.1), (11, .int s.2.2.2.2)]) [0, 1, 2, 3, 4, 5, 6, 7, 8, 9] rfl ?_
      exact cmapart_114 s0 D cB cI cJ cD am a1 a2 a3 F G tp w oc n x1 x2 x4 x5 s.1 s.2.1 s.2.2.1 s.2.2.2.1 s.2.2.2.2 hW hFr h hL64 hQ
    · replace h := zif_neg q h
      clear q
      refine zV_blk (pc' := 102) (lo' := [(6, .int (s.1 + 1)), (0, .ref am), (1, .int x1), (2, .int x2), (4, .int x4), (5, .int x5), (7, .int s.2.1), (8, .long s.2.2.1), (10, .int s.2.2.2.1), (11, .int s.2.2.2.2)]) (st' := [.int 1, .int (s.1 + 1)]) [.iinc 6 1, .iload 6, .iconst 1] (by decide +kernel) rfl ?_
      refine zV_icmp_ne (tgt := 110) (off := 8) (by decide +kernel) (by decide) (fun q => ?_) (fun q => ?_)
      · replace h := zif_neg q h
        clear q
        refine zV_blk (pc' := 112) (lo' := [(6, .int (s.1 + 1)), (0, .ref am), (1, .int x1), (2, .int x2), (4, .int x4), (5, .int x5), (7, .int s.2.1), (8, .long s.2.2.1), (10, .int s.2.2.2.1), (11, .int s.2.2.2.2)]) (st' := [.int s.2.1]) [.iload 7] (by decide +kernel) rfl ?_
        refine zV_pick (lo2 := [(0, .ref am), (1, .int x1), (2, .int x2), (4, .int x4), (5, .int x5), (6, .int (s.1 + 1)), (8, .long s.2.2.1), (10, .int s.2.2.2.1), (11, .int s.2.2.2.2)]) [1, 2, 3, 4, 5, 0, 7, 8, 9] rfl ?_
        exact cmapart_112 s0 D cB cI cJ cD am a1 a2 a3 F G tp w oc n x1 x2 x4 x5 (s.1 + 1) s.2.2.1 s.2.2.2.1 s.2.2.2.2 s.2.1 hW hFr h hL64 hQ
      · replace h := zif_pos q h
        clear q
        refine zV_blk (pc' := 107) (lo' := [(6, .int (s.1 + 1)), (0, .ref am), (1, .int x1), (2, .int x2), (4, .int x4), (5, .int x5), (7, .int s.2.1), (8, .long s.2.2.1), (10, .int s.2.2.2.1), (11, .int s.2.2.2.2)]) (st' := [.int s.2.2.2.2]) [.iload 11] (by decide +kernel) rfl ?_
        refine zV_goto (tgt := 112) (off := 5) (by decide +kernel) (by decide) ?_
        refine zV_pick (lo2 := [(0, .ref am), (1, .int x1), (2, .int x2), (4, .int x4), (5, .int x5), (6, .int (s.1 + 1)), (8, .long s.2.2.1), (10, .int s.2.2.2.1), (11, .int s.2.2.2.2)]) [1, 2, 3, 4, 5, 0, 7, 8, 9] rfl ?_
        exact cmapart_112 s0 D cB cI cJ cD am a1 a2 a3 F G tp w oc n x1 x2 x4 x5 (s.1 + 1) s.2.2.1 s.2.2.2.1 s.2.2.2.2 s.2.2.2.2 hW hFr h hL64 hQ
theorem cmapart_64L (s0 : State) (D : va_G) (cB cI cJ cD : ClassId) (am a1 a2 a3 : Nat) (F : Nat → Int32) (G : Nat → Int64) (tp : Nat → Int32) (w : Nat → Int32) (oc : Nat → Int32) (n : Nat) (x1 : Int32) (x2 : Int32) (x4 : Int32) (x5 : Int32) : ∀ (k : Nat) (s : Int32 × Int32 × Int64 × Int32 × Int32) {hi hm : zHp} {nx : Nat} {Q : Option Value → zHp → zHp → Nat → Prop} {hm0 : zHp} (_ : mW cB cI am a1 a2 a3 F G tp w oc hm) (_ : mFr am a1 a2 a3 hm0 hm) {x : Int64 × (Nat → Int32)} (_ : zloop (mapart_64 n F w x1 x2 x4 x5) k s = some x) (hQ : ∀ r : Int64 × (Nat → Int32), x = r → ∀ hm', mW cB cI am a1 a2 a3 r.2 G tp w oc hm' → mFr am a1 a2 a3 hm0 hm' → Q (some (.long r.1)) hi hm' nx), zV s0 D (zty cB cI cJ cD) yX12_apart cX12_apart 14 (some .long) 4 97 0 0 64 [(0, .ref am), (1, .int x1), (2, .int x2), (4, .int x4), (5, .int x5), (6, .int s.1), (7, .int s.2.1), (8, .long s.2.2.1), (10, .int s.2.2.2.1), (11, .int s.2.2.2.2)] [] hi hm nx Q
  | 0, s, _, _, _, _, _, hW, hFr, _, h, _ => by cases h
  | k + 1, s, hi, hm, nx, Q, hm0, hW, hFr, x, h, hQ => by
    obtain ⟨z, hz, h1, h2⟩ := zloop_succ h
    exact cmapart_64 s0 D cB cI cJ cD am a1 a2 a3 F G tp w oc n x1 x2 x4 x5 s z hW hFr hz (fun s' hs hm' hW' hFr' => cmapart_64L s0 D cB cI cJ cD am a1 a2 a3 F G tp w oc n x1 x2 x4 x5 k s' hW' hFr' (h1 s' hs) hQ) (fun r hr hm' hW' hFr' => hQ r (h2 _ hr).symm hm' hW' hFr')
def mapart (n : Nat) (F : Nat → Int32) (w : Nat → Int32) (x1 : Int32) (x2 : Int32) (x3 : Int32) (x4 : Int32) (x5 : Int32) : Option (Int64 × (Nat → Int32)) := (misThere w x1).bind (fun v1 => (if v1 = true then (misThere w x2).bind (fun v2 => (if v2 = true then (misSpan x3 x4).bind (fun v3 => (if v3 = true then (misIn (x5 : Int32).toInt64 0 3).bind (fun v4 => (if v4 = true then (zloop (mapart_64 n (upd F 0 0) w x1 x2 x4 x5) n (0, (-1), (-1), x3, x3)) else some ((-1000000000000000), (upd F 0 0)))) else some ((-1000000000000000), (upd F 0 0)))) else some ((-1000000000000000), (upd F 0 0)))) else some ((-1000000000000000), (upd F 0 0))))
theorem oX12_apart : zO yX12_apart cX12_apart 14 (some .long) 5 := ⟨zT_mem 2061 (by decide +kernel) rfl, zT_mem 94 (by decide +kernel) rfl, by decide +kernel, by decide +kernel, by decide +kernel⟩
set_option maxHeartbeats 4000000 in
set_option maxRecDepth 100000 in
theorem cmapart (s0 : State) (D : va_G) (cB cI cJ cD : ClassId) (am a1 a2 a3 : Nat) (F : Nat → Int32) (G : Nat → Int64) (tp w oc : Nat → Int32) (n : Nat) (x1 : Int32) (x2 : Int32) (x3 : Int32) (x4 : Int32) (x5 : Int32) (x : Int64 × (Nat → Int32)) (h : mapart n F w x1 x2 x3 x4 x5 = some x) : mC s0 D cB cI cJ cD am a1 a2 a3 yX12_apart cX12_apart 14 (some .long) 4 97 [.int x1, .int x2, .int x3, .int x4, .int x5] F G tp w oc (some (.long x.1)) x.2 G tp w oc := by
  intro hi hm nx Q hW hQ0
  have hQ : ∀ r : Int64 × (Nat → Int32), x = r → ∀ hm', mW cB cI am a1 a2 a3 r.2 G tp w oc hm' → mFr am a1 a2 a3 hm hm' → Q (some (.long r.1)) hi hm' nx := fun r hr => by subst hr; exact hQ0
  have hFr : mFr am a1 a2 a3 hm hm := mFr.rf
  clear hQ0
  refine zM_of (by decide +kernel) (Nat.le_of_ble_eq_true rfl) ?_
  unfold mapart at h
  refine zV_eq (lo2 := [(0, .ref am), (1, .int x1), (2, .int x2), (3, .int x3), (4, .int x4), (5, .int x5)]) rfl rfl rfl rfl ?_
  refine zV_blk (pc' := 2) (lo' := [(0, .ref am), (1, .int x1), (2, .int x2), (3, .int x3), (4, .int x4), (5, .int x5)]) (st' := [.int 0, .ref am]) [.aload_n 0, .iconst 0] (by decide +kernel) rfl ?_
  refine m_put (idx := 25) (k := 0) (v := .int 0) (F' := (upd F 0 0)) (G' := G) hW m_in12 (by decide) (zT_mem 1440 (by decide +kernel) rfl) rfl rfl rfl rfl (by decide +kernel) (fun hm hW hFr2 => ?_)
  replace hFr := hFr.tr hFr2; clear hFr2
  refine zV_blk (pc' := 7) (lo' := [(0, .ref am), (1, .int x1), (2, .int x2), (3, .int x3), (4, .int x4), (5, .int x5)]) (st' := [.int x1, .ref am]) [.aload_n 0, .iload_n 1] (by decide +kernel) rfl ?_
  obtain ⟨v1, hv1, h⟩ := zbind h
  refine m_cR (idx := 273) (rest := []) hW (cmisThere s0 D cB cI cJ cD am a1 a2 a3 (upd F 0 0) G tp w oc x1 v1 hv1) oX12_isThere rfl (zT_mem 1686 (by decide +kernel) rfl) (zT_mem 1688 (by decide +kernel) rfl) (zT_mem 49 (by decide +kernel) rfl) rfl rfl (Nat.le_of_ble_eq_true rfl) ⟨by decide, by decide⟩ (by decide +kernel) ?_
  refine zV_eq (st2 := [.int (zb v1)]) rfl rfl rfl rfl ?_
  refine zV_bif_eq (tgt := 43) (off := 33) (by decide +kernel) (by decide) (fun q => ?_) (fun q => ?_)
  · replace h := zif_neg q h
    clear q
    refine zV_ldc2 (idx := 40) (v := (-1000000000000000)) (zT_mem 1728 (by decide +kernel) rfl) (by decide +kernel) ?_
    obtain rfl := Option.some.inj h
    exact zV_lret rfl (by decide +kernel) (hQ _ rfl hm hW hFr)
  · replace h := zif_pos q h
    clear q
    refine zV_blk (pc' := 15) (lo' := [(0, .ref am), (1, .int x1), (2, .int x2), (3, .int x3), (4, .int x4), (5, .int x5)]) (st' := [.int x2, .ref am]) [.aload_n 0, .iload_n 2] (by decide +kernel) rfl ?_
    obtain ⟨v2, hv2, h⟩ := zbind h
    refine m_cR (idx := 273) (rest := []) hW (cmisThere s0 D cB cI cJ cD am a1 a2 a3 (upd F 0 0) G tp w oc x2 v2 hv2) oX12_isThere rfl (zT_mem 1686 (by decide +kernel) rfl) (zT_mem 1688 (by decide +kernel) rfl) (zT_mem 49 (by decide +kernel) rfl) rfl rfl (Nat.le_of_ble_eq_true rfl) ⟨by decide, by decide⟩ (by decide +kernel) ?_
    refine zV_eq (st2 := [.int (zb v2)]) rfl rfl rfl rfl ?_
    refine zV_bif_eq (tgt := 43) (off := 25) (by decide +kernel) (by decide) (fun q => ?_) (fun q => ?_)
    · replace h := zif_neg q h
      clear q
      refine zV_ldc2 (idx := 40) (v := (-1000000000000000)) (zT_mem 1728 (by decide +kernel) rfl) (by decide +kernel) ?_
      obtain rfl := Option.some.inj h
      exact zV_lret rfl (by decide +kernel) (hQ _ rfl hm hW hFr)
    · replace h := zif_pos q h
      clear q
      refine zV_blk (pc' := 24) (lo' := [(0, .ref am), (1, .int x1), (2, .int x2), (3, .int x3), (4, .int x4), (5, .int x5)]) (st' := [.int x4, .int x3]) [.iload_n 3, .iload 4] (by decide +kernel) rfl ?_
      obtain ⟨v3, hv3, h⟩ := zbind h
      refine zV_sC (idx := 358) (rest := []) (cmisSpan s0 D cB cI cJ cD x3 x4 v3 hv3) oX12_isSpan (zT_mem 1909 (by decide +kernel) rfl) (zT_mem 1910 (by decide +kernel) rfl) rfl rfl (Nat.le_of_ble_eq_true rfl) ⟨by decide, by decide⟩ (by decide +kernel) ?_
      refine zV_eq (st2 := [.int (zb v3)]) rfl rfl rfl rfl ?_
      refine zV_bif_eq (tgt := 43) (off := 16) (by decide +kernel) (by decide) (fun q => ?_) (fun q => ?_)
      · replace h := zif_neg q h
        clear q
        refine zV_ldc2 (idx := 40) (v := (-1000000000000000)) (zT_mem 1728 (by decide +kernel) rfl) (by decide +kernel) ?_
        obtain rfl := Option.some.inj h
        exact zV_lret rfl (by decide +kernel) (hQ _ rfl hm hW hFr)
      · replace h := zif_pos q h
        clear q
        refine zV_blk (pc' := 34) (lo' := [(0, .ref am), (1, .int x1), (2, .int x2), (3, .int x3), (4, .int x4), (5, .int x5)]) (st' := [.long 0, .long (x5 : Int32).toInt64]) [.iload 5, .i2l, .lconst 0] (by decide +kernel) rfl ?_
        refine zV_ldc2 (idx := 442) (v := 3) (zT_mem 2062 (by decide +kernel) rfl) (by decide +kernel) ?_
        obtain ⟨v4, hv4, h⟩ := zbind h
        refine zV_sC (idx := 36) (rest := []) (cmisIn s0 D cB cI cJ cD (x5 : Int32).toInt64 0 3 v4 hv4) oX12_isIn (zT_mem 1531 (by decide +kernel) rfl) (zT_mem 1532 (by decide +kernel) rfl) rfl rfl (Nat.le_of_ble_eq_true rfl) ⟨by decide, by decide⟩ (by decide +kernel) ?_
        refine zV_eq (st2 := [.int (zb v4)]) rfl rfl rfl rfl ?_
        refine zV_bif_ne (tgt := 47) (off := 7) (by decide +kernel) (by decide) (fun q => ?_) (fun q => ?_)
        · replace h := zif_pos q h
          clear q
          refine zV_blk (pc' := 53) (lo' := [(7, .int (-1)), (6, .int 0), (0, .ref am), (1, .int x1), (2, .int x2), (3, .int x3), (4, .int x4), (5, .int x5)]) (st' := []) [.iconst 0, .istore 6, .iconst (-1), .istore 7] (by decide +kernel) rfl ?_
          refine zV_ldc2 (idx := 98) (v := (-1)) (zT_mem 1572 (by decide +kernel) rfl) (by decide +kernel) ?_
          refine zV_blk (pc' := 64) (lo' := [(11, .int x3), (10, .int x3), (8, .long (-1)), (7, .int (-1)), (6, .int 0), (0, .ref am), (1, .int x1), (2, .int x2), (3, .int x3), (4, .int x4), (5, .int x5)]) (st' := []) [.lstore 8, .iload_n 3, .istore 10, .iload_n 3, .istore 11] (by decide +kernel) rfl ?_
          refine zV_pick (lo2 := [(0, .ref am), (1, .int x1), (2, .int x2), (4, .int x4), (5, .int x5), (6, .int 0), (7, .int (-1)), (8, .long (-1)), (10, .int x3), (11, .int x3)]) [5, 6, 7, 9, 10, 4, 3, 2, 1, 0] rfl ?_
          exact cmapart_64L s0 D cB cI cJ cD am a1 a2 a3 (upd F 0 0) G tp w oc n x1 x2 x4 x5 n (0, (-1), (-1), x3, x3) hW hFr h hQ
        · replace h := zif_neg q h
          clear q
          refine zV_ldc2 (idx := 40) (v := (-1000000000000000)) (zT_mem 1728 (by decide +kernel) rfl) (by decide +kernel) ?_
          obtain rfl := Option.some.inj h
          exact zV_lret rfl (by decide +kernel) (hQ _ rfl hm hW hFr)

def mlaysBest_113 (n : Nat) (G : Nat → Int64) (x1 : Int64) (x3 : Int64) (x5 : Int32) (x6 : Int64) (x8 : Int64) : Option ((Int64 × Int64 × (Nat → Int64)) ⊕ ((Nat → Int64))) := some (.inl (x6, (x8 + 1), G))
set_option maxHeartbeats 4000000 in
set_option maxRecDepth 100000 in
theorem cmlaysBest_113 (s0 : State) (D : va_G) (cB cI cJ cD : ClassId) (am a1 a2 a3 : Nat) (F : Nat → Int32) (G : Nat → Int64) (tp w oc : Nat → Int32) (n : Nat) (x1 : Int64) (x3 : Int64) (x5 : Int32) (x6 : Int64) (x8 : Int64) {hi hm : zHp} {nx : Nat} {Q : Option Value → zHp → zHp → Nat → Prop} {hm0 : zHp} {x : (Int64 × Int64 × (Nat → Int64)) ⊕ ((Nat → Int64))} (hW : mW cB cI am a1 a2 a3 F G tp w oc hm) (hFr : mFr am a1 a2 a3 hm0 hm) (h : mlaysBest_113 n G x1 x3 x5 x6 x8 = some x) (hL16 : ∀ s : Int64 × Int64 × (Nat → Int64), x = (.inl s) → ∀ hm', mW cB cI am a1 a2 a3 F s.2.2 tp w oc hm' → mFr am a1 a2 a3 hm0 hm' → zV s0 D (zty cB cI cJ cD) yX12_laysBest cX12_laysBest 14 none 1 21 0 0 16 [(0, .ref am), (1, .long x1), (3, .long x3), (5, .int x5), (6, .long s.1), (8, .long s.2.1)] [] hi hm' nx Q) (hQ : ∀ r : (Nat → Int64), x = (.inr r) → ∀ hm', mW cB cI am a1 a2 a3 F r tp w oc hm' → mFr am a1 a2 a3 hm0 hm' → Q none hi hm' nx) : zV s0 D (zty cB cI cJ cD) yX12_laysBest cX12_laysBest 14 none 1 21 0 0 113 [(0, .ref am), (1, .long x1), (3, .long x3), (5, .int x5), (6, .long x6), (8, .long x8)] [] hi hm nx Q := by
  unfold mlaysBest_113 at h
  refine zV_blk (pc' := 119) (lo' := [(8, .long (x8 + 1)), (0, .ref am), (1, .long x1), (3, .long x3), (5, .int x5), (6, .long x6)]) (st' := []) [.lload 8, .lconst 1, .ladd, .lstore 8] (by decide +kernel) rfl ?_
  refine zV_goto (tgt := 16) (off := -103) (by decide +kernel) (by decide) ?_
  obtain rfl := Option.some.inj h
  refine zV_pick (lo2 := [(0, .ref am), (1, .long x1), (3, .long x3), (5, .int x5), (6, .long x6), (8, .long (x8 + 1))]) [1, 2, 3, 4, 5, 0] rfl ?_
  exact hL16 _ rfl hm hW hFr
def mlaysBest_104 (n : Nat) (G : Nat → Int64) (x1 : Int64) (x3 : Int64) (x5 : Int32) (x6 : Int64) (x8 : Int64) (x10 : Int64) : Option ((Int64 × Int64 × (Nat → Int64)) ⊕ ((Int64 × Int64 × (Nat → Int64)) ⊕ ((Nat → Int64)))) := some (.inl (x6, (x10 + 1), G))
set_option maxHeartbeats 4000000 in
set_option maxRecDepth 100000 in
theorem cmlaysBest_104 (s0 : State) (D : va_G) (cB cI cJ cD : ClassId) (am a1 a2 a3 : Nat) (F : Nat → Int32) (G : Nat → Int64) (tp w oc : Nat → Int32) (n : Nat) (x1 : Int64) (x3 : Int64) (x5 : Int32) (x6 : Int64) (x8 : Int64) (x10 : Int64) {hi hm : zHp} {nx : Nat} {Q : Option Value → zHp → zHp → Nat → Prop} {hm0 : zHp} {x : (Int64 × Int64 × (Nat → Int64)) ⊕ ((Int64 × Int64 × (Nat → Int64)) ⊕ ((Nat → Int64)))} (hW : mW cB cI am a1 a2 a3 F G tp w oc hm) (hFr : mFr am a1 a2 a3 hm0 hm) (h : mlaysBest_104 n G x1 x3 x5 x6 x8 x10 = some x) (hL33 : ∀ s : Int64 × Int64 × (Nat → Int64), x = (.inl s) → ∀ hm', mW cB cI am a1 a2 a3 F s.2.2 tp w oc hm' → mFr am a1 a2 a3 hm0 hm' → zV s0 D (zty cB cI cJ cD) yX12_laysBest cX12_laysBest 14 none 1 21 0 0 33 [(0, .ref am), (1, .long x1), (3, .long x3), (5, .int x5), (6, .long s.1), (8, .long x8), (10, .long s.2.1)] [] hi hm' nx Q) (hL16 : ∀ s : Int64 × Int64 × (Nat → Int64), x = (.inr (.inl s)) → ∀ hm', mW cB cI am a1 a2 a3 F s.2.2 tp w oc hm' → mFr am a1 a2 a3 hm0 hm' → zV s0 D (zty cB cI cJ cD) yX12_laysBest cX12_laysBest 14 none 1 21 0 0 16 [(0, .ref am), (1, .long x1), (3, .long x3), (5, .int x5), (6, .long s.1), (8, .long s.2.1)] [] hi hm' nx Q) (hQ : ∀ r : (Nat → Int64), x = (.inr (.inr r)) → ∀ hm', mW cB cI am a1 a2 a3 F r tp w oc hm' → mFr am a1 a2 a3 hm0 hm' → Q none hi hm' nx) : zV s0 D (zty cB cI cJ cD) yX12_laysBest cX12_laysBest 14 none 1 21 0 0 104 [(0, .ref am), (1, .long x1), (3, .long x3), (5, .int x5), (6, .long x6), (8, .long x8), (10, .long x10)] [] hi hm nx Q := by
  unfold mlaysBest_104 at h
  refine zV_blk (pc' := 110) (lo' := [(10, .long (x10 + 1)), (0, .ref am), (1, .long x1), (3, .long x3), (5, .int x5), (6, .long x6), (8, .long x8)]) (st' := []) [.lload 10, .lconst 1, .ladd, .lstore 10] (by decide +kernel) rfl ?_
  refine zV_goto (tgt := 33) (off := -77) (by decide +kernel) (by decide) ?_
  obtain rfl := Option.some.inj h
  refine zV_pick (lo2 := [(0, .ref am), (1, .long x1), (3, .long x3), (5, .int x5), (6, .long x6), (8, .long x8), (10, .long (x10 + 1))]) [1, 2, 3, 4, 5, 6, 0] rfl ?_
  exact hL33 _ rfl hm hW hFr
def mlaysBest_33 (n : Nat) (x1 : Int64) (x3 : Int64) (x5 : Int32) (x8 : Int64) (s : Int64 × Int64 × (Nat → Int64)) : Option ((Int64 × Int64 × (Nat → Int64)) ⊕ ((Int64 × Int64 × (Nat → Int64)) ⊕ ((Nat → Int64)))) := zck (decide (¬ (x3 : Int64) = 0)) ((if ((((x1 * x8) / x3) + 1) : Int64) < (s.2.1 : Int64) then ((mlaysBest_113 n s.2.2 x1 x3 x5 s.1 x8).map (fun z => .inr z)) else (if (x8 : Int64) < (s.2.1 : Int64) then ((mlaysBest_113 n s.2.2 x1 x3 x5 s.1 x8).map (fun z => .inr z)) else (msize ((x1 * x8) - (s.2.1 * x3))).bind (fun v3 => (if ((v3 * (s.2.2 24)) : Int64) < ((s.1 * x8) : Int64) then (mlaysBest_104 n (vp_updL (vp_updL s.2.2 23 s.2.1) 24 x8) x1 x3 x5 v3 x8 s.2.1) else (mlaysBest_104 n s.2.2 x1 x3 x5 s.1 x8 s.2.1))))))
set_option maxHeartbeats 4000000 in
set_option maxRecDepth 100000 in
theorem cmlaysBest_33 (s0 : State) (D : va_G) (cB cI cJ cD : ClassId) (am a1 a2 a3 : Nat) (F : Nat → Int32) (tp : Nat → Int32) (w : Nat → Int32) (oc : Nat → Int32) (n : Nat) (x1 : Int64) (x3 : Int64) (x5 : Int32) (x8 : Int64) (s : Int64 × Int64 × (Nat → Int64)) (x : (Int64 × Int64 × (Nat → Int64)) ⊕ ((Int64 × Int64 × (Nat → Int64)) ⊕ ((Nat → Int64)))) {hi hm : zHp} {nx : Nat} {Q : Option Value → zHp → zHp → Nat → Prop} {hm0 : zHp} (hW : mW cB cI am a1 a2 a3 F s.2.2 tp w oc hm) (hFr : mFr am a1 a2 a3 hm0 hm) (h : mlaysBest_33 n x1 x3 x5 x8 s = some x) (hL33 : ∀ s : Int64 × Int64 × (Nat → Int64), x = (.inl s) → ∀ hm', mW cB cI am a1 a2 a3 F s.2.2 tp w oc hm' → mFr am a1 a2 a3 hm0 hm' → zV s0 D (zty cB cI cJ cD) yX12_laysBest cX12_laysBest 14 none 1 21 0 0 33 [(0, .ref am), (1, .long x1), (3, .long x3), (5, .int x5), (6, .long s.1), (8, .long x8), (10, .long s.2.1)] [] hi hm' nx Q) (hL16 : ∀ s : Int64 × Int64 × (Nat → Int64), x = (.inr (.inl s)) → ∀ hm', mW cB cI am a1 a2 a3 F s.2.2 tp w oc hm' → mFr am a1 a2 a3 hm0 hm' → zV s0 D (zty cB cI cJ cD) yX12_laysBest cX12_laysBest 14 none 1 21 0 0 16 [(0, .ref am), (1, .long x1), (3, .long x3), (5, .int x5), (6, .long s.1), (8, .long s.2.1)] [] hi hm' nx Q) (hQ : ∀ r : (Nat → Int64), x = (.inr (.inr r)) → ∀ hm', mW cB cI am a1 a2 a3 F r tp w oc hm' → mFr am a1 a2 a3 hm0 hm' → Q none hi hm' nx) : zV s0 D (zty cB cI cJ cD) yX12_laysBest cX12_laysBest 14 none 1 21 0 0 33 [(0, .ref am), (1, .long x1), (3, .long x3), (5, .int x5), (6, .long s.1), (8, .long x8), (10, .long s.2.1)] [] hi hm nx Q := by
  unfold mlaysBest_33 at h
  refine zV_blk (pc' := 40) (lo' := [(0, .ref am), (1, .long x1), (3, .long x3), (5, .int x5), (6, .long s.1), (8, .long x8), (10, .long s.2.1)]) (st' := [.long x3, .long (x1 * x8), .long s.2.1]) [.lload 10, .lload_n 1, .lload 8, .lmul, .lload_n 3] (by decide +kernel) rfl ?_
  obtain ⟨hz, h⟩ := zck_some h
  refine zV_ldiv (by decide +kernel) (of_decide_eq_true hz) ?_
  refine zV_blk (pc' := 44) (lo' := [(0, .ref am), (1, .long x1), (3, .long x3), (5, .int x5), (6, .long s.1), (8, .long x8), (10, .long s.2.1)]) (st' := [.int (lg_cmp s.2.1 (((x1 * x8) / x3) + 1))]) [.lconst 1, .ladd, .lcmp] (by decide +kernel) rfl ?_
  refine zV_lcmp_gt (tgt := 113) (off := 69) (by decide +kernel) (by decide) (fun q => ?_) (fun q => ?_)
  · replace h := zif_pos q h
    clear q
    obtain ⟨z1, h9, hx⟩ := zmap h
    clear h; subst hx; have h := h9; clear h9
    refine zV_pick (lo2 := [(0, .ref am), (1, .long x1), (3, .long x3), (5, .int x5), (6, .long s.1), (8, .long x8)]) [0, 1, 2, 3, 4, 5] rfl ?_
    exact cmlaysBest_113 s0 D cB cI cJ cD am a1 a2 a3 F s.2.2 tp w oc n x1 x3 x5 s.1 x8 hW hFr h (fun s hs => hL16 s (by rw [hs])) (fun r hr => hQ r (by rw [hr]))
  · replace h := zif_neg q h
    clear q
    refine zV_blk (pc' := 52) (lo' := [(0, .ref am), (1, .long x1), (3, .long x3), (5, .int x5), (6, .long s.1), (8, .long x8), (10, .long s.2.1)]) (st' := [.int (lg_cmp s.2.1 x8)]) [.lload 10, .lload 8, .lcmp] (by decide +kernel) rfl ?_
    refine zV_lcmp_gt (tgt := 113) (off := 61) (by decide +kernel) (by decide) (fun q => ?_) (fun q => ?_)
    · replace h := zif_pos q h
      clear q
      obtain ⟨z2, h9, hx⟩ := zmap h
      clear h; subst hx; have h := h9; clear h9
      refine zV_pick (lo2 := [(0, .ref am), (1, .long x1), (3, .long x3), (5, .int x5), (6, .long s.1), (8, .long x8)]) [0, 1, 2, 3, 4, 5] rfl ?_
      exact cmlaysBest_113 s0 D cB cI cJ cD am a1 a2 a3 F s.2.2 tp w oc n x1 x3 x5 s.1 x8 hW hFr h (fun s hs => hL16 s (by rw [hs])) (fun r hr => hQ r (by rw [hr]))
    · replace h := zif_neg q h
      clear q
      refine zV_blk (pc' := 64) (lo' := [(0, .ref am), (1, .long x1), (3, .long x3), (5, .int x5), (6, .long s.1), (8, .long x8), (10, .long s.2.1)]) (st' := [.long ((x1 * x8) - (s.2.1 * x3))]) [.lload_n 1, .lload 8, .lmul, .lload 10, .lload_n 3, .lmul, .lsub] (by decide +kernel) rfl ?_
      obtain ⟨v3, hv3, h⟩ := zbind h
      refine zV_sC (idx := 32) (rest := []) (cmsize s0 D cB cI cJ cD ((x1 * x8) - (s.2.1 * x3)) v3 hv3) oX12_size (zT_mem 1739 (by decide +kernel) rfl) (zT_mem 1740 (by decide +kernel) rfl) rfl rfl (Nat.le_of_ble_eq_true rfl) ⟨by decide, by decide⟩ (by decide +kernel) ?_
      refine zV_eq (st2 := [.long v3]) rfl rfl rfl rfl ?_
      refine zV_blk (pc' := 72) (lo' := [(12, .long v3), (0, .ref am), (1, .long x1), (3, .long x3), (5, .int x5), (6, .long s.1), (8, .long x8), (10, .long s.2.1)]) (st' := [.ref am, .long v3]) [.lstore 12, .lload 12, .aload_n 0] (by decide +kernel) rfl ?_
      refine m_get (idx := 447) (k := 24) (v := .long (s.2.2 24)) hW m_in12 (by decide) (zT_mem 1464 (by decide +kernel) rfl) rfl (by decide +kernel) ?_
      refine zV_blk (pc' := 82) (lo' := [(12, .long v3), (0, .ref am), (1, .long x1), (3, .long x3), (5, .int x5), (6, .long s.1), (8, .long x8), (10, .long s.2.1)]) (st' := [.int (lg_cmp (v3 * (s.2.2 24)) (s.1 * x8))]) [.lmul, .lload 6, .lload 8, .lmul, .lcmp] (by decide +kernel) rfl ?_
      refine zV_lcmp_lt (tgt := 88) (off := 6) (by decide +kernel) (by decide) (fun q => ?_) (fun q => ?_)
      · replace h := zif_pos q h
        clear q
        refine zV_blk (pc' := 95) (lo' := [(6, .long v3), (12, .long v3), (0, .ref am), (1, .long x1), (3, .long x3), (5, .int x5), (8, .long x8), (10, .long s.2.1)]) (st' := [.long s.2.1, .ref am]) [.lload 12, .lstore 6, .aload_n 0, .lload 10] (by decide +kernel) rfl ?_
        refine m_put (idx := 444) (k := 23) (v := .long s.2.1) (F' := F) (G' := (vp_updL s.2.2 23 s.2.1)) hW m_in12 (by decide) (zT_mem 1463 (by decide +kernel) rfl) rfl rfl rfl rfl (by decide +kernel) (fun hm hW hFr2 => ?_)
        replace hFr := hFr.tr hFr2; clear hFr2
        refine zV_blk (pc' := 101) (lo' := [(6, .long v3), (12, .long v3), (0, .ref am), (1, .long x1), (3, .long x3), (5, .int x5), (8, .long x8), (10, .long s.2.1)]) (st' := [.long x8, .ref am]) [.aload_n 0, .lload 8] (by decide +kernel) rfl ?_
        refine m_put (idx := 447) (k := 24) (v := .long x8) (F' := F) (G' := (vp_updL (vp_updL s.2.2 23 s.2.1) 24 x8)) hW m_in12 (by decide) (zT_mem 1464 (by decide +kernel) rfl) rfl rfl rfl rfl (by decide +kernel) (fun hm hW hFr2 => ?_)
        replace hFr := hFr.tr hFr2; clear hFr2
        refine zV_pick (lo2 := [(0, .ref am), (1, .long x1), (3, .long x3), (5, .int x5), (6, .long v3), (8, .long x8), (10, .long s.2.1)]) [2, 3, 4, 5, 0, 6, 7] rfl ?_
        exact cmlaysBest_104 s0 D cB cI cJ cD am a1 a2 a3 F (vp_updL (vp_updL s.2.2 23 s.2.1) 24 x8) tp w oc n x1 x3 x5 v3 x8 s.2.1 hW hFr h hL33 hL16 hQ
      · replace h := zif_neg q h
        clear q
        refine zV_goto (tgt := 104) (off := 19) (by decide +kernel) (by decide) ?_
        refine zV_pick (lo2 := [(0, .ref am), (1, .long x1), (3, .long x3), (5, .int x5), (6, .long s.1), (8, .long x8), (10, .long s.2.1)]) [1, 2, 3, 4, 5, 6, 7] rfl ?_
        exact cmlaysBest_104 s0 D cB cI cJ cD am a1 a2 a3 F s.2.2 tp w oc n x1 x3 x5 s.1 x8 s.2.1 hW hFr h hL33 hL16 hQ
theorem cmlaysBest_33L (s0 : State) (D : va_G) (cB cI cJ cD : ClassId) (am a1 a2 a3 : Nat) (F : Nat → Int32) (tp : Nat → Int32) (w : Nat → Int32) (oc : Nat → Int32) (n : Nat) (x1 : Int64) (x3 : Int64) (x5 : Int32) (x8 : Int64) : ∀ (k : Nat) (s : Int64 × Int64 × (Nat → Int64)) {hi hm : zHp} {nx : Nat} {Q : Option Value → zHp → zHp → Nat → Prop} {hm0 : zHp} (_ : mW cB cI am a1 a2 a3 F s.2.2 tp w oc hm) (_ : mFr am a1 a2 a3 hm0 hm) {x : (Int64 × Int64 × (Nat → Int64)) ⊕ ((Nat → Int64))} (_ : zloop (mlaysBest_33 n x1 x3 x5 x8) k s = some x) (hL16 : ∀ s : Int64 × Int64 × (Nat → Int64), x = (.inl s) → ∀ hm', mW cB cI am a1 a2 a3 F s.2.2 tp w oc hm' → mFr am a1 a2 a3 hm0 hm' → zV s0 D (zty cB cI cJ cD) yX12_laysBest cX12_laysBest 14 none 1 21 0 0 16 [(0, .ref am), (1, .long x1), (3, .long x3), (5, .int x5), (6, .long s.1), (8, .long s.2.1)] [] hi hm' nx Q) (hQ : ∀ r : (Nat → Int64), x = (.inr r) → ∀ hm', mW cB cI am a1 a2 a3 F r tp w oc hm' → mFr am a1 a2 a3 hm0 hm' → Q none hi hm' nx), zV s0 D (zty cB cI cJ cD) yX12_laysBest cX12_laysBest 14 none 1 21 0 0 33 [(0, .ref am), (1, .long x1), (3, .long x3), (5, .int x5), (6, .long s.1), (8, .long x8), (10, .long s.2.1)] [] hi hm nx Q
  | 0, s, _, _, _, _, _, hW, hFr, _, h, _, _ => by cases h
  | k + 1, s, hi, hm, nx, Q, hm0, hW, hFr, x, h, hL16, hQ => by
    obtain ⟨z, hz, h1, h2⟩ := zloop_succ h
    exact cmlaysBest_33 s0 D cB cI cJ cD am a1 a2 a3 F tp w oc n x1 x3 x5 x8 s z hW hFr hz (fun s' hs hm' hW' hFr' => cmlaysBest_33L s0 D cB cI cJ cD am a1 a2 a3 F tp w oc n x1 x3 x5 x8 k s' hW' hFr' (h1 s' hs) hL16 hQ) (fun s' hs hm' hW' hFr' => hL16 s' (h2 _ hs).symm hm' hW' hFr') (fun r hr hm' hW' hFr' => hQ r (h2 _ hr).symm hm' hW' hFr')
def mlaysBest_16 (n : Nat) (x1 : Int64) (x3 : Int64) (x5 : Int32) (s : Int64 × Int64 × (Nat → Int64)) : Option ((Int64 × Int64 × (Nat → Int64)) ⊕ ((Nat → Int64))) := (if ((x5 : Int32).toInt64 : Int64) < (s.2.1 : Int64) then some (.inr s.2.2) else zck (decide (¬ (x3 : Int64) = 0)) ((zloop (mlaysBest_33 n x1 x3 x5 s.2.1) n (s.1, ((x1 * s.2.1) / x3), s.2.2))))
set_option maxHeartbeats 4000000 in
set_option maxRecDepth 100000 in
theorem cmlaysBest_16 (s0 : State) (D : va_G) (cB cI cJ cD : ClassId) (am a1 a2 a3 : Nat) (F : Nat → Int32) (tp : Nat → Int32) (w : Nat → Int32) (oc : Nat → Int32) (n : Nat) (x1 : Int64) (x3 : Int64) (x5 : Int32) (s : Int64 × Int64 × (Nat → Int64)) (x : (Int64 × Int64 × (Nat → Int64)) ⊕ ((Nat → Int64))) {hi hm : zHp} {nx : Nat} {Q : Option Value → zHp → zHp → Nat → Prop} {hm0 : zHp} (hW : mW cB cI am a1 a2 a3 F s.2.2 tp w oc hm) (hFr : mFr am a1 a2 a3 hm0 hm) (h : mlaysBest_16 n x1 x3 x5 s = some x) (hL16 : ∀ s : Int64 × Int64 × (Nat → Int64), x = (.inl s) → ∀ hm', mW cB cI am a1 a2 a3 F s.2.2 tp w oc hm' → mFr am a1 a2 a3 hm0 hm' → zV s0 D (zty cB cI cJ cD) yX12_laysBest cX12_laysBest 14 none 1 21 0 0 16 [(0, .ref am), (1, .long x1), (3, .long x3), (5, .int x5), (6, .long s.1), (8, .long s.2.1)] [] hi hm' nx Q) (hQ : ∀ r : (Nat → Int64), x = (.inr r) → ∀ hm', mW cB cI am a1 a2 a3 F r tp w oc hm' → mFr am a1 a2 a3 hm0 hm' → Q none hi hm' nx) : zV s0 D (zty cB cI cJ cD) yX12_laysBest cX12_laysBest 14 none 1 21 0 0 16 [(0, .ref am), (1, .long x1), (3, .long x3), (5, .int x5), (6, .long s.1), (8, .long s.2.1)] [] hi hm nx Q := by
  unfold mlaysBest_16 at h
  refine zV_blk (pc' := 22) (lo' := [(0, .ref am), (1, .long x1), (3, .long x3), (5, .int x5), (6, .long s.1), (8, .long s.2.1)]) (st' := [.int (lg_cmp s.2.1 (x5 : Int32).toInt64)]) [.lload 8, .iload 5, .i2l, .lcmp] (by decide +kernel) rfl ?_
  refine zV_lcmp_gt (tgt := 122) (off := 100) (by decide +kernel) (by decide) (fun q => ?_) (fun q => ?_)
  · replace h := zif_pos q h
    clear q
    obtain rfl := Option.some.inj h
    exact zV_vret rfl (by decide +kernel) (hQ _ rfl hm hW hFr)
  · replace h := zif_neg q h
    clear q
    refine zV_blk (pc' := 30) (lo' := [(0, .ref am), (1, .long x1), (3, .long x3), (5, .int x5), (6, .long s.1), (8, .long s.2.1)]) (st' := [.long x3, .long (x1 * s.2.1)]) [.lload_n 1, .lload 8, .lmul, .lload_n 3] (by decide +kernel) rfl ?_
    obtain ⟨hz, h⟩ := zck_some h
    refine zV_ldiv (by decide +kernel) (of_decide_eq_true hz) ?_
    refine zV_blk (pc' := 33) (lo' := [(10, .long ((x1 * s.2.1) / x3)), (0, .ref am), (1, .long x1), (3, .long x3), (5, .int x5), (6, .long s.1), (8, .long s.2.1)]) (st' := []) [.lstore 10] (by decide +kernel) rfl ?_
    refine zV_pick (lo2 := [(0, .ref am), (1, .long x1), (3, .long x3), (5, .int x5), (6, .long s.1), (8, .long s.2.1), (10, .long ((x1 * s.2.1) / x3))]) [1, 2, 3, 4, 5, 6, 0] rfl ?_
    exact cmlaysBest_33L s0 D cB cI cJ cD am a1 a2 a3 F tp w oc n x1 x3 x5 s.2.1 n (s.1, ((x1 * s.2.1) / x3), s.2.2) hW hFr h hL16 hQ
theorem cmlaysBest_16L (s0 : State) (D : va_G) (cB cI cJ cD : ClassId) (am a1 a2 a3 : Nat) (F : Nat → Int32) (tp : Nat → Int32) (w : Nat → Int32) (oc : Nat → Int32) (n : Nat) (x1 : Int64) (x3 : Int64) (x5 : Int32) : ∀ (k : Nat) (s : Int64 × Int64 × (Nat → Int64)) {hi hm : zHp} {nx : Nat} {Q : Option Value → zHp → zHp → Nat → Prop} {hm0 : zHp} (_ : mW cB cI am a1 a2 a3 F s.2.2 tp w oc hm) (_ : mFr am a1 a2 a3 hm0 hm) {x : (Nat → Int64)} (_ : zloop (mlaysBest_16 n x1 x3 x5) k s = some x) (hQ : ∀ r : (Nat → Int64), x = r → ∀ hm', mW cB cI am a1 a2 a3 F r tp w oc hm' → mFr am a1 a2 a3 hm0 hm' → Q none hi hm' nx), zV s0 D (zty cB cI cJ cD) yX12_laysBest cX12_laysBest 14 none 1 21 0 0 16 [(0, .ref am), (1, .long x1), (3, .long x3), (5, .int x5), (6, .long s.1), (8, .long s.2.1)] [] hi hm nx Q
  | 0, s, _, _, _, _, _, hW, hFr, _, h, _ => by cases h
  | k + 1, s, hi, hm, nx, Q, hm0, hW, hFr, x, h, hQ => by
    obtain ⟨z, hz, h1, h2⟩ := zloop_succ h
    exact cmlaysBest_16 s0 D cB cI cJ cD am a1 a2 a3 F tp w oc n x1 x3 x5 s z hW hFr hz (fun s' hs hm' hW' hFr' => cmlaysBest_16L s0 D cB cI cJ cD am a1 a2 a3 F tp w oc n x1 x3 x5 k s' hW' hFr' (h1 s' hs) hQ) (fun r hr hm' hW' hFr' => hQ r (h2 _ hr).symm hm' hW' hFr')
def mlaysBest (n : Nat) (G : Nat → Int64) (x1 : Int64) (x3 : Int64) (x5 : Int32) : Option ((Nat → Int64)) := (zloop (mlaysBest_16 n x1 x3 x5) n (x1, 1, (vp_updL (vp_updL G 23 0) 24 1)))
theorem oX12_laysBest : zO yX12_laysBest cX12_laysBest 14 none 3 := ⟨zT_mem 2073 (by decide +kernel) rfl, zT_mem 94 (by decide +kernel) rfl, by decide +kernel, by decide +kernel, by decide +kernel⟩
set_option maxHeartbeats 4000000 in
set_option maxRecDepth 100000 in
theorem cmlaysBest (s0 : State) (D : va_G) (cB cI cJ cD : ClassId) (am a1 a2 a3 : Nat) (F : Nat → Int32) (G : Nat → Int64) (tp w oc : Nat → Int32) (n : Nat) (x1 : Int64) (x3 : Int64) (x5 : Int32) (x : (Nat → Int64)) (h : mlaysBest n G x1 x3 x5 = some x) : mC s0 D cB cI cJ cD am a1 a2 a3 yX12_laysBest cX12_laysBest 14 none 1 21 [.long x1, .long x3, .int x5] F G tp w oc none F x tp w oc := by
  intro hi hm nx Q hW hQ0
  have hQ : ∀ r : (Nat → Int64), x = r → ∀ hm', mW cB cI am a1 a2 a3 F r tp w oc hm' → mFr am a1 a2 a3 hm hm' → Q none hi hm' nx := fun r hr => by subst hr; exact hQ0
  have hFr : mFr am a1 a2 a3 hm hm := mFr.rf
  clear hQ0
  refine zM_of (by decide +kernel) (Nat.le_of_ble_eq_true rfl) ?_
  unfold mlaysBest at h
  refine zV_eq (lo2 := [(0, .ref am), (1, .long x1), (3, .long x3), (5, .int x5)]) rfl rfl rfl rfl ?_
  refine zV_blk (pc' := 2) (lo' := [(0, .ref am), (1, .long x1), (3, .long x3), (5, .int x5)]) (st' := [.long 0, .ref am]) [.aload_n 0, .lconst 0] (by decide +kernel) rfl ?_
  refine m_put (idx := 444) (k := 23) (v := .long 0) (F' := F) (G' := (vp_updL G 23 0)) hW m_in12 (by decide) (zT_mem 1463 (by decide +kernel) rfl) rfl rfl rfl rfl (by decide +kernel) (fun hm hW hFr2 => ?_)
  replace hFr := hFr.tr hFr2; clear hFr2
  refine zV_blk (pc' := 7) (lo' := [(0, .ref am), (1, .long x1), (3, .long x3), (5, .int x5)]) (st' := [.long 1, .ref am]) [.aload_n 0, .lconst 1] (by decide +kernel) rfl ?_
  refine m_put (idx := 447) (k := 24) (v := .long 1) (F' := F) (G' := (vp_updL (vp_updL G 23 0) 24 1)) hW m_in12 (by decide) (zT_mem 1464 (by decide +kernel) rfl) rfl rfl rfl rfl (by decide +kernel) (fun hm hW hFr2 => ?_)
  replace hFr := hFr.tr hFr2; clear hFr2
  refine zV_blk (pc' := 16) (lo' := [(8, .long 1), (6, .long x1), (0, .ref am), (1, .long x1), (3, .long x3), (5, .int x5)]) (st' := []) [.lload_n 1, .lstore 6, .lconst 1, .lstore 8] (by decide +kernel) rfl ?_
  refine zV_pick (lo2 := [(0, .ref am), (1, .long x1), (3, .long x3), (5, .int x5), (6, .long x1), (8, .long 1)]) [2, 3, 4, 5, 1, 0] rfl ?_
  exact cmlaysBest_16L s0 D cB cI cJ cD am a1 a2 a3 F tp w oc n x1 x3 x5 n (x1, 1, (vp_updL (vp_updL G 23 0) 24 1)) hW hFr h hQ

def misFraction (x0 : Int32) (x1 : Int32) : Option (Bool) := (misIn (x1 : Int32).toInt64 1 1000000).bind (fun v1 => (if v1 = true then (misIn (x0 : Int32).toInt64 0 (x1 : Int32).toInt64).bind (fun v2 => (if v2 = true then some true else some false)) else some false))
theorem oX12_isFraction : zO yX12_isFraction cX12_isFraction 2 (some .boolean) 2 := ⟨zT_mem 2069 (by decide +kernel) rfl, zT_mem 94 (by decide +kernel) rfl, by decide +kernel, by decide +kernel, by decide +kernel⟩
set_option maxHeartbeats 4000000 in
set_option maxRecDepth 100000 in
theorem cmisFraction (s0 : State) (D : va_G) (cB cI cJ cD : ClassId) (x0 : Int32) (x1 : Int32) (x : Bool) (h : misFraction x0 x1 = some x) : sC s0 D (zty cB cI cJ cD) yX12_isFraction cX12_isFraction 2 (some .boolean) 1 25 [.int x0, .int x1] (.int (zb x)) := by
  intro hi hm nx Q hQ0
  have hQ : ∀ r : Bool, x = r → Q (some (.int (zb r))) hi hm nx := fun r hr => by subst hr; exact hQ0
  refine zM_of (by decide +kernel) (Nat.le_of_ble_eq_true rfl) ?_
  unfold misFraction at h
  refine zV_eq (lo2 := [(0, .int x0), (1, .int x1)]) rfl rfl rfl rfl ?_
  refine zV_blk (pc' := 3) (lo' := [(0, .int x0), (1, .int x1)]) (st' := [.long 1, .long (x1 : Int32).toInt64]) [.iload_n 1, .i2l, .lconst 1] (by decide +kernel) rfl ?_
  refine zV_ldc2 (idx := 292) (v := 1000000) (zT_mem 1763 (by decide +kernel) rfl) (by decide +kernel) ?_
  obtain ⟨v1, hv1, h⟩ := zbind h
  refine zV_sC (idx := 36) (rest := []) (cmisIn s0 D cB cI cJ cD (x1 : Int32).toInt64 1 1000000 v1 hv1) oX12_isIn (zT_mem 1531 (by decide +kernel) rfl) (zT_mem 1532 (by decide +kernel) rfl) rfl rfl (Nat.le_of_ble_eq_true rfl) ⟨by decide, by decide⟩ (by decide +kernel) ?_
  refine zV_eq (st2 := [.int (zb v1)]) rfl rfl rfl rfl ?_
  refine zV_bif_eq (tgt := 27) (off := 18) (by decide +kernel) (by decide) (fun q => ?_) (fun q => ?_)
  · replace h := zif_neg q h
    clear q
    refine zV_blk (pc' := 28) (lo' := [(0, .int x0), (1, .int x1)]) (st' := [.int 0]) [.iconst 0] (by decide +kernel) rfl ?_
    obtain rfl := Option.some.inj h
    refine zV_eq (st2 := [.int (zb false)]) rfl rfl rfl rfl ?_
    exact zV_bret rfl (by decide +kernel) (hQ _ rfl)
  · replace h := zif_pos q h
    clear q
    refine zV_blk (pc' := 17) (lo' := [(0, .int x0), (1, .int x1)]) (st' := [.long (x1 : Int32).toInt64, .long 0, .long (x0 : Int32).toInt64]) [.iload_n 0, .i2l, .lconst 0, .iload_n 1, .i2l] (by decide +kernel) rfl ?_
    obtain ⟨v2, hv2, h⟩ := zbind h
    refine zV_sC (idx := 36) (rest := []) (cmisIn s0 D cB cI cJ cD (x0 : Int32).toInt64 0 (x1 : Int32).toInt64 v2 hv2) oX12_isIn (zT_mem 1531 (by decide +kernel) rfl) (zT_mem 1532 (by decide +kernel) rfl) rfl rfl (Nat.le_of_ble_eq_true rfl) ⟨by decide, by decide⟩ (by decide +kernel) ?_
    refine zV_eq (st2 := [.int (zb v2)]) rfl rfl rfl rfl ?_
    refine zV_bif_eq (tgt := 27) (off := 7) (by decide +kernel) (by decide) (fun q => ?_) (fun q => ?_)
    · replace h := zif_neg q h
      clear q
      refine zV_blk (pc' := 28) (lo' := [(0, .int x0), (1, .int x1)]) (st' := [.int 0]) [.iconst 0] (by decide +kernel) rfl ?_
      obtain rfl := Option.some.inj h
      refine zV_eq (st2 := [.int (zb false)]) rfl rfl rfl rfl ?_
      exact zV_bret rfl (by decide +kernel) (hQ _ rfl)
    · replace h := zif_pos q h
      clear q
      refine zV_blk (pc' := 24) (lo' := [(0, .int x0), (1, .int x1)]) (st' := [.int 1]) [.iconst 1] (by decide +kernel) rfl ?_
      refine zV_goto (tgt := 28) (off := 4) (by decide +kernel) (by decide) ?_
      obtain rfl := Option.some.inj h
      refine zV_eq (st2 := [.int (zb true)]) rfl rfl rfl rfl ?_
      exact zV_bret rfl (by decide +kernel) (hQ _ rfl)

