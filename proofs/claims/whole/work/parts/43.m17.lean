def mdawns_182 (n : Nat) (F : Nat → Int32) (w : Nat → Int32) (x2 : Int32) (x3 : Int32) (x4 : Int32) (x5 : Int32) (x6 : Int64) (x10 : Int32) (x11 : Int32) (t0 : Int64) : Option ((Int64 × Int64 × Int32 × Int32) ⊕ (Int32 × (Nat → Int32))) := some (.inl (x6, t0, x10, (x11 + 1)))
set_option maxHeartbeats 4000000 in
set_option maxRecDepth 100000 in
theorem cmdawns_182 (s0 : State) (D : va_G) (cB cI cJ cD : ClassId) (am a1 a2 a3 : Nat) (F : Nat → Int32) (G : Nat → Int64) (tp w oc : Nat → Int32) (n : Nat) (x2 : Int32) (x3 : Int32) (x4 : Int32) (x5 : Int32) (x6 : Int64) (x10 : Int32) (x11 : Int32) (t0 : Int64) {hi hm : zHp} {nx : Nat} {Q : Option Value → zHp → zHp → Nat → Prop} {hm0 : zHp} {x : (Int64 × Int64 × Int32 × Int32) ⊕ (Int32 × (Nat → Int32))} (hW : mW cB cI am a1 a2 a3 F G tp w oc hm) (hFr : mFr am a1 a2 a3 hm0 hm) (h : mdawns_182 n F w x2 x3 x4 x5 x6 x10 x11 t0 = some x) (hL54 : ∀ s : Int64 × Int64 × Int32 × Int32, x = (.inl s) → ∀ hm', mW cB cI am a1 a2 a3 F G tp w oc hm' → mFr am a1 a2 a3 hm0 hm' → zV s0 D (zty cB cI cJ cD) yX12_dawns cX12_dawns 18 (some .int) 5 126 0 0 54 [(0, .ref am), (2, .int x2), (3, .int x3), (4, .int x4), (5, .int x5), (6, .long s.1), (8, .long s.2.1), (10, .int s.2.2.1), (11, .int s.2.2.2)] [] hi hm' nx Q) (hQ : ∀ r : Int32 × (Nat → Int32), x = (.inr r) → ∀ hm', mW cB cI am a1 a2 a3 r.2 G tp w oc hm' → mFr am a1 a2 a3 hm0 hm' → Q (some (.int r.1)) hi hm' nx) : zV s0 D (zty cB cI cJ cD) yX12_dawns cX12_dawns 18 (some .int) 5 126 0 0 182 [(0, .ref am), (2, .int x2), (3, .int x3), (4, .int x4), (5, .int x5), (6, .long x6), (10, .int x10), (11, .int x11)] [.long t0] hi hm nx Q := by
  unfold mdawns_182 at h
  refine zV_blk (pc' := 187) (lo' := [(11, .int (x11 + 1)), (8, .long t0), (0, .ref am), (2, .int x2), (3, .int x3), (4, .int x4), (5, .int x5), (6, .long x6), (10, .int x10)]) (st' := []) [.lstore 8, .iinc 11 1] (by decide +kernel) rfl ?_
  refine zV_goto (tgt := 54) (off := -133) (by decide +kernel) (by decide) ?_
  obtain rfl := Option.some.inj h
  refine zV_pick (lo2 := [(0, .ref am), (2, .int x2), (3, .int x3), (4, .int x4), (5, .int x5), (6, .long x6), (8, .long t0), (10, .int x10), (11, .int (x11 + 1))]) [2, 3, 4, 5, 6, 7, 1, 8, 0] rfl ?_
  exact hL54 _ rfl hm hW hFr
def mdawns_175 (n : Nat) (F : Nat → Int32) (w : Nat → Int32) (x2 : Int32) (x3 : Int32) (x4 : Int32) (x5 : Int32) (x6 : Int64) (x10 : Int32) (x11 : Int32) (x16 : Int64) : Option ((Int64 × Int64 × Int32 × Int32) ⊕ (Int32 × (Nat → Int32))) := (mdawns_182 n F w x2 x3 x4 x5 x6 x10 x11 x16)
set_option maxHeartbeats 4000000 in
set_option maxRecDepth 100000 in
theorem cmdawns_175 (s0 : State) (D : va_G) (cB cI cJ cD : ClassId) (am a1 a2 a3 : Nat) (F : Nat → Int32) (G : Nat → Int64) (tp w oc : Nat → Int32) (n : Nat) (x2 : Int32) (x3 : Int32) (x4 : Int32) (x5 : Int32) (x6 : Int64) (x10 : Int32) (x11 : Int32) (x16 : Int64) {hi hm : zHp} {nx : Nat} {Q : Option Value → zHp → zHp → Nat → Prop} {hm0 : zHp} {x : (Int64 × Int64 × Int32 × Int32) ⊕ (Int32 × (Nat → Int32))} (hW : mW cB cI am a1 a2 a3 F G tp w oc hm) (hFr : mFr am a1 a2 a3 hm0 hm) (h : mdawns_175 n F w x2 x3 x4 x5 x6 x10 x11 x16 = some x) (hL54 : ∀ s : Int64 × Int64 × Int32 × Int32, x = (.inl s) → ∀ hm', mW cB cI am a1 a2 a3 F G tp w oc hm' → mFr am a1 a2 a3 hm0 hm' → zV s0 D (zty cB cI cJ cD) yX12_dawns cX12_dawns 18 (some .int) 5 126 0 0 54 [(0, .ref am), (2, .int x2), (3, .int x3), (4, .int x4), (5, .int x5), (6, .long s.1), (8, .long s.2.1), (10, .int s.2.2.1), (11, .int s.2.2.2)] [] hi hm' nx Q) (hQ : ∀ r : Int32 × (Nat → Int32), x = (.inr r) → ∀ hm', mW cB cI am a1 a2 a3 r.2 G tp w oc hm' → mFr am a1 a2 a3 hm0 hm' → Q (some (.int r.1)) hi hm' nx) : zV s0 D (zty cB cI cJ cD) yX12_dawns cX12_dawns 18 (some .int) 5 126 0 0 175 [(0, .ref am), (2, .int x2), (3, .int x3), (4, .int x4), (5, .int x5), (6, .long x6), (10, .int x10), (11, .int x11), (16, .long x16)] [] hi hm nx Q := by
  unfold mdawns_175 at h
  refine zV_blk (pc' := 177) (lo' := [(0, .ref am), (2, .int x2), (3, .int x3), (4, .int x4), (5, .int x5), (6, .long x6), (10, .int x10), (11, .int x11), (16, .long x16)]) (st' := [.long x16]) [.lload 16] (by decide +kernel) rfl ?_
  refine zV_goto (tgt := 182) (off := 5) (by decide +kernel) (by decide) ?_
  refine zV_pick (lo2 := [(0, .ref am), (2, .int x2), (3, .int x3), (4, .int x4), (5, .int x5), (6, .long x6), (10, .int x10), (11, .int x11)]) [0, 1, 2, 3, 4, 5, 6, 7] rfl ?_
  exact cmdawns_182 s0 D cB cI cJ cD am a1 a2 a3 F G tp w oc n x2 x3 x4 x5 x6 x10 x11 x16 hW hFr h hL54 hQ
def mdawns_159 (n : Nat) (F : Nat → Int32) (w : Nat → Int32) (x2 : Int32) (x3 : Int32) (x4 : Int32) (x5 : Int32) (x8 : Int64) (x10 : Int32) (x11 : Int32) (x16 : Int64) (t0 : Int64) : Option ((Int64 × Int64 × Int32 × Int32) ⊕ (Int32 × (Nat → Int32))) := (if (x11 : Int32) = (x2 : Int32) then (mdawns_175 n F w x2 x3 x4 x5 t0 x10 x11 x16) else (if (x16 : Int64) ≤ (x8 : Int64) then (mdawns_182 n F w x2 x3 x4 x5 t0 x10 x11 x8) else (mdawns_175 n F w x2 x3 x4 x5 t0 x10 x11 x16)))
set_option maxHeartbeats 4000000 in
set_option maxRecDepth 100000 in
theorem cmdawns_159 (s0 : State) (D : va_G) (cB cI cJ cD : ClassId) (am a1 a2 a3 : Nat) (F : Nat → Int32) (G : Nat → Int64) (tp w oc : Nat → Int32) (n : Nat) (x2 : Int32) (x3 : Int32) (x4 : Int32) (x5 : Int32) (x8 : Int64) (x10 : Int32) (x11 : Int32) (x16 : Int64) (t0 : Int64) {hi hm : zHp} {nx : Nat} {Q : Option Value → zHp → zHp → Nat → Prop} {hm0 : zHp} {x : (Int64 × Int64 × Int32 × Int32) ⊕ (Int32 × (Nat → Int32))} (hW : mW cB cI am a1 a2 a3 F G tp w oc hm) (hFr : mFr am a1 a2 a3 hm0 hm) (h : mdawns_159 n F w x2 x3 x4 x5 x8 x10 x11 x16 t0 = some x) (hL54 : ∀ s : Int64 × Int64 × Int32 × Int32, x = (.inl s) → ∀ hm', mW cB cI am a1 a2 a3 F G tp w oc hm' → mFr am a1 a2 a3 hm0 hm' → zV s0 D (zty cB cI cJ cD) yX12_dawns cX12_dawns 18 (some .int) 5 126 0 0 54 [(0, .ref am), (2, .int x2), (3, .int x3), (4, .int x4), (5, .int x5), (6, .long s.1), (8, .long s.2.1), (10, .int s.2.2.1), (11, .int s.2.2.2)] [] hi hm' nx Q) (hQ : ∀ r : Int32 × (Nat → Int32), x = (.inr r) → ∀ hm', mW cB cI am a1 a2 a3 r.2 G tp w oc hm' → mFr am a1 a2 a3 hm0 hm' → Q (some (.int r.1)) hi hm' nx) : zV s0 D (zty cB cI cJ cD) yX12_dawns cX12_dawns 18 (some .int) 5 126 0 0 159 [(0, .ref am), (2, .int x2), (3, .int x3), (4, .int x4), (5, .int x5), (8, .long x8), (10, .int x10), (11, .int x11), (16, .long x16)] [.long t0] hi hm nx Q := by
  unfold mdawns_159 at h
  refine zV_blk (pc' := 164) (lo' := [(6, .long t0), (0, .ref am), (2, .int x2), (3, .int x3), (4, .int x4), (5, .int x5), (8, .long x8), (10, .int x10), (11, .int x11), (16, .long x16)]) (st' := [.int x2, .int x11]) [.lstore 6, .iload 11, .iload_n 2] (by decide +kernel) rfl ?_
  refine zV_icmp_eq (tgt := 175) (off := 11) (by decide +kernel) (by decide) (fun q => ?_) (fun q => ?_)
  · replace h := zif_pos q h
    clear q
    refine zV_pick (lo2 := [(0, .ref am), (2, .int x2), (3, .int x3), (4, .int x4), (5, .int x5), (6, .long t0), (10, .int x10), (11, .int x11), (16, .long x16)]) [1, 2, 3, 4, 5, 0, 7, 8, 9] rfl ?_
    exact cmdawns_175 s0 D cB cI cJ cD am a1 a2 a3 F G tp w oc n x2 x3 x4 x5 t0 x10 x11 x16 hW hFr h hL54 hQ
  · replace h := zif_neg q h
    clear q
    refine zV_blk (pc' := 172) (lo' := [(6, .long t0), (0, .ref am), (2, .int x2), (3, .int x3), (4, .int x4), (5, .int x5), (8, .long x8), (10, .int x10), (11, .int x11), (16, .long x16)]) (st' := [.int (lg_cmp x16 x8)]) [.lload 16, .lload 8, .lcmp] (by decide +kernel) rfl ?_
    refine zV_lcmp_le (tgt := 180) (off := 8) (by decide +kernel) (by decide) (fun q => ?_) (fun q => ?_)
    · replace h := zif_pos q h
      clear q
      refine zV_blk (pc' := 182) (lo' := [(6, .long t0), (0, .ref am), (2, .int x2), (3, .int x3), (4, .int x4), (5, .int x5), (8, .long x8), (10, .int x10), (11, .int x11), (16, .long x16)]) (st' := [.long x8]) [.lload 8] (by decide +kernel) rfl ?_
      refine zV_pick (lo2 := [(0, .ref am), (2, .int x2), (3, .int x3), (4, .int x4), (5, .int x5), (6, .long t0), (10, .int x10), (11, .int x11)]) [1, 2, 3, 4, 5, 0, 7, 8] rfl ?_
      exact cmdawns_182 s0 D cB cI cJ cD am a1 a2 a3 F G tp w oc n x2 x3 x4 x5 t0 x10 x11 x8 hW hFr h hL54 hQ
    · replace h := zif_neg q h
      clear q
      refine zV_pick (lo2 := [(0, .ref am), (2, .int x2), (3, .int x3), (4, .int x4), (5, .int x5), (6, .long t0), (10, .int x10), (11, .int x11), (16, .long x16)]) [1, 2, 3, 4, 5, 0, 7, 8, 9] rfl ?_
      exact cmdawns_175 s0 D cB cI cJ cD am a1 a2 a3 F G tp w oc n x2 x3 x4 x5 t0 x10 x11 x16 hW hFr h hL54 hQ
def mdawns_152 (n : Nat) (F : Nat → Int32) (w : Nat → Int32) (x2 : Int32) (x3 : Int32) (x4 : Int32) (x5 : Int32) (x8 : Int64) (x10 : Int32) (x11 : Int32) (x16 : Int64) : Option ((Int64 × Int64 × Int32 × Int32) ⊕ (Int32 × (Nat → Int32))) := (mdawns_159 n F w x2 x3 x4 x5 x8 x10 x11 x16 x16)
set_option maxHeartbeats 4000000 in
set_option maxRecDepth 100000 in
theorem cmdawns_152 (s0 : State) (D : va_G) (cB cI cJ cD : ClassId) (am a1 a2 a3 : Nat) (F : Nat → Int32) (G : Nat → Int64) (tp w oc : Nat → Int32) (n : Nat) (x2 : Int32) (x3 : Int32) (x4 : Int32) (x5 : Int32) (x8 : Int64) (x10 : Int32) (x11 : Int32) (x16 : Int64) {hi hm : zHp} {nx : Nat} {Q : Option Value → zHp → zHp → Nat → Prop} {hm0 : zHp} {x : (Int64 × Int64 × Int32 × Int32) ⊕ (Int32 × (Nat → Int32))} (hW : mW cB cI am a1 a2 a3 F G tp w oc hm) (hFr : mFr am a1 a2 a3 hm0 hm) (h : mdawns_152 n F w x2 x3 x4 x5 x8 x10 x11 x16 = some x) (hL54 : ∀ s : Int64 × Int64 × Int32 × Int32, x = (.inl s) → ∀ hm', mW cB cI am a1 a2 a3 F G tp w oc hm' → mFr am a1 a2 a3 hm0 hm' → zV s0 D (zty cB cI cJ cD) yX12_dawns cX12_dawns 18 (some .int) 5 126 0 0 54 [(0, .ref am), (2, .int x2), (3, .int x3), (4, .int x4), (5, .int x5), (6, .long s.1), (8, .long s.2.1), (10, .int s.2.2.1), (11, .int s.2.2.2)] [] hi hm' nx Q) (hQ : ∀ r : Int32 × (Nat → Int32), x = (.inr r) → ∀ hm', mW cB cI am a1 a2 a3 r.2 G tp w oc hm' → mFr am a1 a2 a3 hm0 hm' → Q (some (.int r.1)) hi hm' nx) : zV s0 D (zty cB cI cJ cD) yX12_dawns cX12_dawns 18 (some .int) 5 126 0 0 152 [(0, .ref am), (2, .int x2), (3, .int x3), (4, .int x4), (5, .int x5), (8, .long x8), (10, .int x10), (11, .int x11), (16, .long x16)] [] hi hm nx Q := by
  unfold mdawns_152 at h
  refine zV_blk (pc' := 154) (lo' := [(0, .ref am), (2, .int x2), (3, .int x3), (4, .int x4), (5, .int x5), (8, .long x8), (10, .int x10), (11, .int x11), (16, .long x16)]) (st' := [.long x16]) [.lload 16] (by decide +kernel) rfl ?_
  refine zV_goto (tgt := 159) (off := 5) (by decide +kernel) (by decide) ?_
  refine zV_pick (lo2 := [(0, .ref am), (2, .int x2), (3, .int x3), (4, .int x4), (5, .int x5), (8, .long x8), (10, .int x10), (11, .int x11), (16, .long x16)]) [0, 1, 2, 3, 4, 5, 6, 7, 8] rfl ?_
  exact cmdawns_159 s0 D cB cI cJ cD am a1 a2 a3 F G tp w oc n x2 x3 x4 x5 x8 x10 x11 x16 x16 hW hFr h hL54 hQ
def mdawns_132 (n : Nat) (F : Nat → Int32) (w : Nat → Int32) (x2 : Int32) (x3 : Int32) (x4 : Int32) (x5 : Int32) (x6 : Int64) (x8 : Int64) (x11 : Int32) (x16 : Int64) (t0 : Int32) (t1 : Int32) : Option ((Int64 × Int64 × Int32 × Int32) ⊕ (Int32 × (Nat → Int32))) := (mflag t1).bind (fun v1 => (if (x11 : Int32) = (x2 : Int32) then (mdawns_152 n F w x2 x3 x4 x5 x8 (t0 + v1) x11 x16) else (if (x6 : Int64) ≤ (x16 : Int64) then (mdawns_159 n F w x2 x3 x4 x5 x8 (t0 + v1) x11 x16 x6) else (mdawns_152 n F w x2 x3 x4 x5 x8 (t0 + v1) x11 x16))))
set_option maxHeartbeats 4000000 in
set_option maxRecDepth 100000 in
theorem cmdawns_132 (s0 : State) (D : va_G) (cB cI cJ cD : ClassId) (am a1 a2 a3 : Nat) (F : Nat → Int32) (G : Nat → Int64) (tp w oc : Nat → Int32) (n : Nat) (x2 : Int32) (x3 : Int32) (x4 : Int32) (x5 : Int32) (x6 : Int64) (x8 : Int64) (x11 : Int32) (x16 : Int64) (t0 : Int32) (t1 : Int32) {hi hm : zHp} {nx : Nat} {Q : Option Value → zHp → zHp → Nat → Prop} {hm0 : zHp} {x : (Int64 × Int64 × Int32 × Int32) ⊕ (Int32 × (Nat → Int32))} (hW : mW cB cI am a1 a2 a3 F G tp w oc hm) (hFr : mFr am a1 a2 a3 hm0 hm) (h : mdawns_132 n F w x2 x3 x4 x5 x6 x8 x11 x16 t0 t1 = some x) (hL54 : ∀ s : Int64 × Int64 × Int32 × Int32, x = (.inl s) → ∀ hm', mW cB cI am a1 a2 a3 F G tp w oc hm' → mFr am a1 a2 a3 hm0 hm' → zV s0 D (zty cB cI cJ cD) yX12_dawns cX12_dawns 18 (some .int) 5 126 0 0 54 [(0, .ref am), (2, .int x2), (3, .int x3), (4, .int x4), (5, .int x5), (6, .long s.1), (8, .long s.2.1), (10, .int s.2.2.1), (11, .int s.2.2.2)] [] hi hm' nx Q) (hQ : ∀ r : Int32 × (Nat → Int32), x = (.inr r) → ∀ hm', mW cB cI am a1 a2 a3 r.2 G tp w oc hm' → mFr am a1 a2 a3 hm0 hm' → Q (some (.int r.1)) hi hm' nx) : zV s0 D (zty cB cI cJ cD) yX12_dawns cX12_dawns 18 (some .int) 5 126 0 0 132 [(0, .ref am), (2, .int x2), (3, .int x3), (4, .int x4), (5, .int x5), (6, .long x6), (8, .long x8), (11, .int x11), (16, .long x16)] [.int t1, .int t0] hi hm nx Q := by
  unfold mdawns_132 at h
  obtain ⟨v1, hv1, h⟩ := zbind h
  refine zV_sC (idx := 321) (rest := [.int t0]) (cmflag s0 D cB cI cJ cD t1 v1 hv1) oX12_flag (zT_mem 1822 (by decide +kernel) rfl) (zT_mem 1823 (by decide +kernel) rfl) rfl rfl (Nat.le_of_ble_eq_true rfl) ⟨by decide, by decide⟩ (by decide +kernel) ?_
  refine zV_eq (st2 := [.int v1, .int t0]) rfl rfl rfl rfl ?_
  refine zV_blk (pc' := 141) (lo' := [(10, .int (t0 + v1)), (0, .ref am), (2, .int x2), (3, .int x3), (4, .int x4), (5, .int x5), (6, .long x6), (8, .long x8), (11, .int x11), (16, .long x16)]) (st' := [.int x2, .int x11]) [.iadd, .istore 10, .iload 11, .iload_n 2] (by decide +kernel) rfl ?_
  refine zV_icmp_eq (tgt := 152) (off := 11) (by decide +kernel) (by decide) (fun q => ?_) (fun q => ?_)
  · replace h := zif_pos q h
    clear q
    refine zV_pick (lo2 := [(0, .ref am), (2, .int x2), (3, .int x3), (4, .int x4), (5, .int x5), (8, .long x8), (10, .int (t0 + v1)), (11, .int x11), (16, .long x16)]) [1, 2, 3, 4, 5, 7, 0, 8, 9] rfl ?_
    exact cmdawns_152 s0 D cB cI cJ cD am a1 a2 a3 F G tp w oc n x2 x3 x4 x5 x8 (t0 + v1) x11 x16 hW hFr h hL54 hQ
  · replace h := zif_neg q h
    clear q
    refine zV_blk (pc' := 149) (lo' := [(10, .int (t0 + v1)), (0, .ref am), (2, .int x2), (3, .int x3), (4, .int x4), (5, .int x5), (6, .long x6), (8, .long x8), (11, .int x11), (16, .long x16)]) (st' := [.int (lg_cmp x16 x6)]) [.lload 16, .lload 6, .lcmp] (by decide +kernel) rfl ?_
    refine zV_lcmp_ge (tgt := 157) (off := 8) (by decide +kernel) (by decide) (fun q => ?_) (fun q => ?_)
    · replace h := zif_pos q h
      clear q
      refine zV_blk (pc' := 159) (lo' := [(10, .int (t0 + v1)), (0, .ref am), (2, .int x2), (3, .int x3), (4, .int x4), (5, .int x5), (6, .long x6), (8, .long x8), (11, .int x11), (16, .long x16)]) (st' := [.long x6]) [.lload 6] (by decide +kernel) rfl ?_
      refine zV_pick (lo2 := [(0, .ref am), (2, .int x2), (3, .int x3), (4, .int x4), (5, .int x5), (8, .long x8), (10, .int (t0 + v1)), (11, .int x11), (16, .long x16)]) [1, 2, 3, 4, 5, 7, 0, 8, 9] rfl ?_
      exact cmdawns_159 s0 D cB cI cJ cD am a1 a2 a3 F G tp w oc n x2 x3 x4 x5 x8 (t0 + v1) x11 x16 x6 hW hFr h hL54 hQ
    · replace h := zif_neg q h
      clear q
      refine zV_pick (lo2 := [(0, .ref am), (2, .int x2), (3, .int x3), (4, .int x4), (5, .int x5), (8, .long x8), (10, .int (t0 + v1)), (11, .int x11), (16, .long x16)]) [1, 2, 3, 4, 5, 7, 0, 8, 9] rfl ?_
      exact cmdawns_152 s0 D cB cI cJ cD am a1 a2 a3 F G tp w oc n x2 x3 x4 x5 x8 (t0 + v1) x11 x16 hW hFr h hL54 hQ
def mdawns_54 (n : Nat) (F : Nat → Int32) (w : Nat → Int32) (x2 : Int32) (x3 : Int32) (x4 : Int32) (x5 : Int32) (s : Int64 × Int64 × Int32 × Int32) : Option ((Int64 × Int64 × Int32 × Int32) ⊕ (Int32 × (Nat → Int32))) := (if (x3 : Int32) < (s.2.2.2 : Int32) then (if (x4 : Int32) = (0 : Int32) then some (.inr ((s.1 : Int64).toInt32, F)) else (if (x4 : Int32) = (1 : Int32) then some (.inr ((s.2.1 : Int64).toInt32, F)) else some (.inr (s.2.2.1, F)))) else (mdawnOf n w x5 (s.2.2.2 : Int32).toInt64).bind (fun v1 => (mbelowOf n w x5).bind (fun v2 => (mfloor v1 v2).bind (fun v3 => (misDay n w x5 v3).bind (fun v4 => (if v4 = true then (myearOf n w x5 v3).bind (fun v5 => (mstartOf n w x5 v5).bind (fun v6 => (if (v5 : Int64) = ((s.2.2.2 : Int32).toInt64 : Int64) then (mdawns_132 n F w x2 x3 x4 x5 s.1 s.2.1 s.2.2.2 (v3 - v6) s.2.2.1 0) else (mdawns_132 n F w x2 x3 x4 x5 s.1 s.2.1 s.2.2.2 (v3 - v6) s.2.2.1 1)))) else some (.inr ((-1), F))))))))
set_option maxHeartbeats 4000000 in
set_option maxRecDepth 100000 in
theorem cmdawns_54 (s0 : State) (D : va_G) (cB cI cJ cD : ClassId) (am a1 a2 a3 : Nat) (F : Nat → Int32) (G : Nat → Int64) (tp : Nat → Int32) (w : Nat → Int32) (oc : Nat → Int32) (n : Nat) (x2 : Int32) (x3 : Int32) (x4 : Int32) (x5 : Int32) (s : Int64 × Int64 × Int32 × Int32) (x : (Int64 × Int64 × Int32 × Int32) ⊕ (Int32 × (Nat → Int32))) {hi hm : zHp} {nx : Nat} {Q : Option Value → zHp → zHp → Nat → Prop} {hm0 : zHp} (hW : mW cB cI am a1 a2 a3 F G tp w oc hm) (hFr : mFr am a1 a2 a3 hm0 hm) (h : mdawns_54 n F w x2 x3 x4 x5 s = some x) (hL54 : ∀ s : Int64 × Int64 × Int32 × Int32, x = (.inl s) → ∀ hm', mW cB cI am a1 a2 a3 F G tp w oc hm' → mFr am a1 a2 a3 hm0 hm' → zV s0 D (zty cB cI cJ cD) yX12_dawns cX12_dawns 18 (some .int) 5 126 0 0 54 [(0, .ref am), (2, .int x2), (3, .int x3), (4, .int x4), (5, .int x5), (6, .long s.1), (8, .long s.2.1), (10, .int s.2.2.1), (11, .int s.2.2.2)] [] hi hm' nx Q) (hQ : ∀ r : Int32 × (Nat → Int32), x = (.inr r) → ∀ hm', mW cB cI am a1 a2 a3 r.2 G tp w oc hm' → mFr am a1 a2 a3 hm0 hm' → Q (some (.int r.1)) hi hm' nx) : zV s0 D (zty cB cI cJ cD) yX12_dawns cX12_dawns 18 (some .int) 5 126 0 0 54 [(0, .ref am), (2, .int x2), (3, .int x3), (4, .int x4), (5, .int x5), (6, .long s.1), (8, .long s.2.1), (10, .int s.2.2.1), (11, .int s.2.2.2)] [] hi hm nx Q := by
  unfold mdawns_54 at h
  refine zV_blk (pc' := 57) (lo' := [(0, .ref am), (2, .int x2), (3, .int x3), (4, .int x4), (5, .int x5), (6, .long s.1), (8, .long s.2.1), (10, .int s.2.2.1), (11, .int s.2.2.2)]) (st' := [.int x3, .int s.2.2.2]) [.iload 11, .iload_n 3] (by decide +kernel) rfl ?_
  refine zV_icmp_gt (tgt := 190) (off := 133) (by decide +kernel) (by decide) (fun q => ?_) (fun q => ?_)
  · replace h := zif_pos q h
    clear q
    refine zV_blk (pc' := 192) (lo' := [(0, .ref am), (2, .int x2), (3, .int x3), (4, .int x4), (5, .int x5), (6, .long s.1), (8, .long s.2.1), (10, .int s.2.2.1), (11, .int s.2.2.2)]) (st' := [.int x4]) [.iload 4] (by decide +kernel) rfl ?_
    refine zV_if_ne (tgt := 201) (off := 9) (by decide +kernel) (by decide) (fun q => ?_) (fun q => ?_)
    · replace h := zif_neg q h
      clear q
      refine zV_blk (pc' := 204) (lo' := [(0, .ref am), (2, .int x2), (3, .int x3), (4, .int x4), (5, .int x5), (6, .long s.1), (8, .long s.2.1), (10, .int s.2.2.1), (11, .int s.2.2.2)]) (st' := [.int 1, .int x4]) [.iload 4, .iconst 1] (by decide +kernel) rfl ?_
      refine zV_icmp_ne (tgt := 213) (off := 9) (by decide +kernel) (by decide) (fun q => ?_) (fun q => ?_)
      · replace h := zif_neg q h
        clear q
        refine zV_blk (pc' := 215) (lo' := [(0, .ref am), (2, .int x2), (3, .int x3), (4, .int x4), (5, .int x5), (6, .long s.1), (8, .long s.2.1), (10, .int s.2.2.1), (11, .int s.2.2.2)]) (st' := [.int s.2.2.1]) [.iload 10] (by decide +kernel) rfl ?_
        obtain rfl := Option.some.inj h
        exact zV_iret rfl (by decide +kernel) (hQ _ rfl hm hW hFr)
      · replace h := zif_pos q h
        clear q
        refine zV_blk (pc' := 210) (lo' := [(0, .ref am), (2, .int x2), (3, .int x3), (4, .int x4), (5, .int x5), (6, .long s.1), (8, .long s.2.1), (10, .int s.2.2.1), (11, .int s.2.2.2)]) (st' := [.int (s.2.1 : Int64).toInt32]) [.lload 8, .l2i] (by decide +kernel) rfl ?_
        refine zV_goto (tgt := 215) (off := 5) (by decide +kernel) (by decide) ?_
        obtain rfl := Option.some.inj h
        exact zV_iret rfl (by decide +kernel) (hQ _ rfl hm hW hFr)
    · replace h := zif_pos q h
      clear q
      refine zV_blk (pc' := 198) (lo' := [(0, .ref am), (2, .int x2), (3, .int x3), (4, .int x4), (5, .int x5), (6, .long s.1), (8, .long s.2.1), (10, .int s.2.2.1), (11, .int s.2.2.2)]) (st' := [.int (s.1 : Int64).toInt32]) [.lload 6, .l2i] (by decide +kernel) rfl ?_
      refine zV_goto (tgt := 215) (off := 17) (by decide +kernel) (by decide) ?_
      obtain rfl := Option.some.inj h
      exact zV_iret rfl (by decide +kernel) (hQ _ rfl hm hW hFr)
  · replace h := zif_neg q h
    clear q
    refine zV_blk (pc' := 66) (lo' := [(0, .ref am), (2, .int x2), (3, .int x3), (4, .int x4), (5, .int x5), (6, .long s.1), (8, .long s.2.1), (10, .int s.2.2.1), (11, .int s.2.2.2)]) (st' := [.long (s.2.2.2 : Int32).toInt64, .int x5, .ref am]) [.aload_n 0, .iload 5, .iload 11, .i2l] (by decide +kernel) rfl ?_
    obtain ⟨v1, hv1, h⟩ := zbind h
    refine m_cR (idx := 350) (rest := []) hW (cmdawnOf s0 D cB cI cJ cD am a1 a2 a3 F G tp w oc n x5 (s.2.2.2 : Int32).toInt64 v1 hv1) oX12_dawnOf rfl (zT_mem 1901 (by decide +kernel) rfl) (zT_mem 1903 (by decide +kernel) rfl) (zT_mem 75 (by decide +kernel) rfl) rfl rfl (Nat.le_of_ble_eq_true rfl) ⟨by decide, by decide⟩ (by decide +kernel) ?_
    refine zV_eq (st2 := [.long v1]) rfl rfl rfl rfl ?_
    refine zV_blk (pc' := 72) (lo' := [(0, .ref am), (2, .int x2), (3, .int x3), (4, .int x4), (5, .int x5), (6, .long s.1), (8, .long s.2.1), (10, .int s.2.2.1), (11, .int s.2.2.2)]) (st' := [.int x5, .ref am, .long v1]) [.aload_n 0, .iload 5] (by decide +kernel) rfl ?_
    obtain ⟨v2, hv2, h⟩ := zbind h
    refine m_cR (idx := 347) (rest := [.long v1]) hW (cmbelowOf s0 D cB cI cJ cD am a1 a2 a3 F G tp w oc n x5 v2 hv2) oX12_belowOf rfl (zT_mem 1897 (by decide +kernel) rfl) (zT_mem 1899 (by decide +kernel) rfl) (zT_mem 74 (by decide +kernel) rfl) rfl rfl (Nat.le_of_ble_eq_true rfl) ⟨by decide, by decide⟩ (by decide +kernel) ?_
    refine zV_eq (st2 := [.long v2, .long v1]) rfl rfl rfl rfl ?_
    obtain ⟨v3, hv3, h⟩ := zbind h
    refine zV_sC (idx := 28) (rest := []) (cmfloor s0 D cB cI cJ cD v1 v2 v3 hv3) oX12_floor (zT_mem 1698 (by decide +kernel) rfl) (zT_mem 1699 (by decide +kernel) rfl) rfl rfl (Nat.le_of_ble_eq_true rfl) ⟨by decide, by decide⟩ (by decide +kernel) ?_
    refine zV_eq (st2 := [.long v3]) rfl rfl rfl rfl ?_
    refine zV_blk (pc' := 85) (lo' := [(12, .long v3), (0, .ref am), (2, .int x2), (3, .int x3), (4, .int x4), (5, .int x5), (6, .long s.1), (8, .long s.2.1), (10, .int s.2.2.1), (11, .int s.2.2.2)]) (st' := [.long v3, .int x5, .ref am]) [.lstore 12, .aload_n 0, .iload 5, .lload 12] (by decide +kernel) rfl ?_
    obtain ⟨v4, hv4, h⟩ := zbind h
    refine m_cR (idx := 328) (rest := []) hW (cmisDay s0 D cB cI cJ cD am a1 a2 a3 F G tp w oc n x5 v3 v4 hv4) oX12_isDay rfl (zT_mem 1845 (by decide +kernel) rfl) (zT_mem 1847 (by decide +kernel) rfl) (zT_mem 66 (by decide +kernel) rfl) rfl rfl (Nat.le_of_ble_eq_true rfl) ⟨by decide, by decide⟩ (by decide +kernel) ?_
    refine zV_eq (st2 := [.int (zb v4)]) rfl rfl rfl rfl ?_
    refine zV_bif_ne (tgt := 93) (off := 5) (by decide +kernel) (by decide) (fun q => ?_) (fun q => ?_)
    · replace h := zif_pos q h
      clear q
      refine zV_blk (pc' := 98) (lo' := [(12, .long v3), (0, .ref am), (2, .int x2), (3, .int x3), (4, .int x4), (5, .int x5), (6, .long s.1), (8, .long s.2.1), (10, .int s.2.2.1), (11, .int s.2.2.2)]) (st' := [.long v3, .int x5, .ref am]) [.aload_n 0, .iload 5, .lload 12] (by decide +kernel) rfl ?_
      obtain ⟨v5, hv5, h⟩ := zbind h
      refine m_cR (idx := 266) (rest := []) hW (cmyearOf s0 D cB cI cJ cD am a1 a2 a3 F G tp w oc n x5 v3 v5 hv5) oX12_yearOf rfl (zT_mem 1855 (by decide +kernel) rfl) (zT_mem 1857 (by decide +kernel) rfl) (zT_mem 68 (by decide +kernel) rfl) rfl rfl (Nat.le_of_ble_eq_true rfl) ⟨by decide, by decide⟩ (by decide +kernel) ?_
      refine zV_eq (st2 := [.long v5]) rfl rfl rfl rfl ?_
      refine zV_blk (pc' := 110) (lo' := [(14, .long v5), (12, .long v3), (0, .ref am), (2, .int x2), (3, .int x3), (4, .int x4), (5, .int x5), (6, .long s.1), (8, .long s.2.1), (10, .int s.2.2.1), (11, .int s.2.2.2)]) (st' := [.long v5, .int x5, .ref am, .long v3]) [.lstore 14, .lload 12, .aload_n 0, .iload 5, .lload 14] (by decide +kernel) rfl ?_
      obtain ⟨v6, hv6, h⟩ := zbind h
      refine m_cR (idx := 244) (rest := [.long v3]) hW (cmstartOf s0 D cB cI cJ cD am a1 a2 a3 F G tp w oc n x5 v5 v6 hv6) oX12_startOf rfl (zT_mem 1742 (by decide +kernel) rfl) (zT_mem 1744 (by decide +kernel) rfl) (zT_mem 56 (by decide +kernel) rfl) rfl rfl (Nat.le_of_ble_eq_true rfl) ⟨by decide, by decide⟩ (by decide +kernel) ?_
      refine zV_eq (st2 := [.long v6, .long v3]) rfl rfl rfl rfl ?_
      refine zV_blk (pc' := 124) (lo' := [(16, .long (v3 - v6)), (14, .long v5), (12, .long v3), (0, .ref am), (2, .int x2), (3, .int x3), (4, .int x4), (5, .int x5), (6, .long s.1), (8, .long s.2.1), (10, .int s.2.2.1), (11, .int s.2.2.2)]) (st' := [.int (lg_cmp v5 (s.2.2.2 : Int32).toInt64), .int s.2.2.1]) [.lsub, .lstore 16, .iload 10, .lload 14, .iload 11, .i2l, .lcmp] (by decide +kernel) rfl ?_
      refine zV_lcmp_eq (tgt := 131) (off := 7) (by decide +kernel) (by decide) (fun q => ?_) (fun q => ?_)
      · replace h := zif_pos q h
        clear q
        refine zV_blk (pc' := 132) (lo' := [(16, .long (v3 - v6)), (14, .long v5), (12, .long v3), (0, .ref am), (2, .int x2), (3, .int x3), (4, .int x4), (5, .int x5), (6, .long s.1), (8, .long s.2.1), (10, .int s.2.2.1), (11, .int s.2.2.2)]) (st' := [.int 0, .int s.2.2.1]) [.iconst 0] (by decide +kernel) rfl ?_
        refine zV_pick (lo2 := [(0, .ref am), (2, .int x2), (3, .int x3), (4, .int x4), (5, .int x5), (6, .long s.1), (8, .long s.2.1), (11, .int s.2.2.2), (16, .long (v3 - v6))]) [3, 4, 5, 6, 7, 8, 9, 11, 0] rfl ?_
        exact cmdawns_132 s0 D cB cI cJ cD am a1 a2 a3 F G tp w oc n x2 x3 x4 x5 s.1 s.2.1 s.2.2.2 (v3 - v6) s.2.2.1 0 hW hFr h hL54 hQ
      · replace h := zif_neg q h
        clear q
        refine zV_blk (pc' := 128) (lo' := [(16, .long (v3 - v6)), (14, .long v5), (12, .long v3), (0, .ref am), (2, .int x2), (3, .int x3), (4, .int x4), (5, .int x5), (6, .long s.1), (8, .long s.2.1), (10, .int s.2.2.1), (11, .int s.2.2.2)]) (st' := [.int 1, .int s.2.2.1]) [.iconst 1] (by decide +kernel) rfl ?_
        refine zV_goto (tgt := 132) (off := 4) (by decide +kernel) (by decide) ?_
        refine zV_pick (lo2 := [(0, .ref am), (2, .int x2), (3, .int x3), (4, .int x4), (5, .int x5), (6, .long s.1), (8, .long s.2.1), (11, .int s.2.2.2), (16, .long (v3 - v6))]) [3, 4, 5, 6, 7, 8, 9, 11, 0] rfl ?_
        exact cmdawns_132 s0 D cB cI cJ cD am a1 a2 a3 F G tp w oc n x2 x3 x4 x5 s.1 s.2.1 s.2.2.2 (v3 - v6) s.2.2.1 1 hW hFr h hL54 hQ
    · replace h := zif_neg q h
      clear q
      refine zV_blk (pc' := 92) (lo' := [(12, .long v3), (0, .ref am), (2, .int x2), (3, .int x3), (4, .int x4), (5, .int x5), (6, .long s.1), (8, .long s.2.1), (10, .int s.2.2.1), (11, .int s.2.2.2)]) (st' := [.int (-1)]) [.iconst (-1)] (by decide +kernel) rfl ?_
      obtain rfl := Option.some.inj h
      exact zV_iret rfl (by decide +kernel) (hQ _ rfl hm hW hFr)
theorem cmdawns_54L (s0 : State) (D : va_G) (cB cI cJ cD : ClassId) (am a1 a2 a3 : Nat) (F : Nat → Int32) (G : Nat → Int64) (tp : Nat → Int32) (w : Nat → Int32) (oc : Nat → Int32) (n : Nat) (x2 : Int32) (x3 : Int32) (x4 : Int32) (x5 : Int32) : ∀ (k : Nat) (s : Int64 × Int64 × Int32 × Int32) {hi hm : zHp} {nx : Nat} {Q : Option Value → zHp → zHp → Nat → Prop} {hm0 : zHp} (_ : mW cB cI am a1 a2 a3 F G tp w oc hm) (_ : mFr am a1 a2 a3 hm0 hm) {x : Int32 × (Nat → Int32)} (_ : zloop (mdawns_54 n F w x2 x3 x4 x5) k s = some x) (hQ : ∀ r : Int32 × (Nat → Int32), x = r → ∀ hm', mW cB cI am a1 a2 a3 r.2 G tp w oc hm' → mFr am a1 a2 a3 hm0 hm' → Q (some (.int r.1)) hi hm' nx), zV s0 D (zty cB cI cJ cD) yX12_dawns cX12_dawns 18 (some .int) 5 126 0 0 54 [(0, .ref am), (2, .int x2), (3, .int x3), (4, .int x4), (5, .int x5), (6, .long s.1), (8, .long s.2.1), (10, .int s.2.2.1), (11, .int s.2.2.2)] [] hi hm nx Q
  | 0, s, _, _, _, _, _, hW, hFr, _, h, _ => by cases h
  | k + 1, s, hi, hm, nx, Q, hm0, hW, hFr, x, h, hQ => by
    obtain ⟨z, hz, h1, h2⟩ := zloop_succ h
    exact cmdawns_54 s0 D cB cI cJ cD am a1 a2 a3 F G tp w oc n x2 x3 x4 x5 s z hW hFr hz (fun s' hs hm' hW' hFr' => cmdawns_54L s0 D cB cI cJ cD am a1 a2 a3 F G tp w oc n x2 x3 x4 x5 k s' hW' hFr' (h1 s' hs) hQ) (fun r hr hm' hW' hFr' => hQ r (h2 _ hr).symm hm' hW' hFr')
def mdawns (n : Nat) (F : Nat → Int32) (w : Nat → Int32) (x1 : Int32) (x2 : Int32) (x3 : Int32) (x4 : Int32) : Option (Int32 × (Nat → Int32)) := (misThere w x1).bind (fun v1 => (if v1 = true then (misSpan x2 x3).bind (fun v2 => (if v2 = true then (misIn (x4 : Int32).toInt64 0 2).bind (fun v3 => (if v3 = true then (mbank x1).bind (fun v4 => (zloop (mdawns_54 n (upd F 0 0) w x2 x3 x4 v4) n (0, 0, 0, x2))) else some ((-1), (upd F 0 0)))) else some ((-1), (upd F 0 0)))) else some ((-1), (upd F 0 0))))
theorem oX12_dawns : zO yX12_dawns cX12_dawns 18 (some .int) 4 := ⟨zT_mem 1929 (by decide +kernel) rfl, zT_mem 94 (by decide +kernel) rfl, by decide +kernel, by decide +kernel, by decide +kernel⟩
set_option maxHeartbeats 4000000 in
set_option maxRecDepth 100000 in
theorem cmdawns (s0 : State) (D : va_G) (cB cI cJ cD : ClassId) (am a1 a2 a3 : Nat) (F : Nat → Int32) (G : Nat → Int64) (tp w oc : Nat → Int32) (n : Nat) (x1 : Int32) (x2 : Int32) (x3 : Int32) (x4 : Int32) (x : Int32 × (Nat → Int32)) (h : mdawns n F w x1 x2 x3 x4 = some x) : mC s0 D cB cI cJ cD am a1 a2 a3 yX12_dawns cX12_dawns 18 (some .int) 5 126 [.int x1, .int x2, .int x3, .int x4] F G tp w oc (some (.int x.1)) x.2 G tp w oc := by
  intro hi hm nx Q hW hQ0
  have hQ : ∀ r : Int32 × (Nat → Int32), x = r → ∀ hm', mW cB cI am a1 a2 a3 r.2 G tp w oc hm' → mFr am a1 a2 a3 hm hm' → Q (some (.int r.1)) hi hm' nx := fun r hr => by subst hr; exact hQ0
  have hFr : mFr am a1 a2 a3 hm hm := mFr.rf
  clear hQ0
  refine zM_of (by decide +kernel) (Nat.le_of_ble_eq_true rfl) ?_
  unfold mdawns at h
  refine zV_eq (lo2 := [(0, .ref am), (1, .int x1), (2, .int x2), (3, .int x3), (4, .int x4)]) rfl rfl rfl rfl ?_
  refine zV_blk (pc' := 2) (lo' := [(0, .ref am), (1, .int x1), (2, .int x2), (3, .int x3), (4, .int x4)]) (st' := [.int 0, .ref am]) [.aload_n 0, .iconst 0] (by decide +kernel) rfl ?_
  refine m_put (idx := 25) (k := 0) (v := .int 0) (F' := (upd F 0 0)) (G' := G) hW m_in12 (by decide) (zT_mem 1440 (by decide +kernel) rfl) rfl rfl rfl rfl (by decide +kernel) (fun hm hW hFr2 => ?_)
  replace hFr := hFr.tr hFr2; clear hFr2
  refine zV_blk (pc' := 7) (lo' := [(0, .ref am), (1, .int x1), (2, .int x2), (3, .int x3), (4, .int x4)]) (st' := [.int x1, .ref am]) [.aload_n 0, .iload_n 1] (by decide +kernel) rfl ?_
  obtain ⟨v1, hv1, h⟩ := zbind h
  refine m_cR (idx := 273) (rest := []) hW (cmisThere s0 D cB cI cJ cD am a1 a2 a3 (upd F 0 0) G tp w oc x1 v1 hv1) oX12_isThere rfl (zT_mem 1686 (by decide +kernel) rfl) (zT_mem 1688 (by decide +kernel) rfl) (zT_mem 49 (by decide +kernel) rfl) rfl rfl (Nat.le_of_ble_eq_true rfl) ⟨by decide, by decide⟩ (by decide +kernel) ?_
  refine zV_eq (st2 := [.int (zb v1)]) rfl rfl rfl rfl ?_
  refine zV_bif_eq (tgt := 34) (off := 24) (by decide +kernel) (by decide) (fun q => ?_) (fun q => ?_)
  · replace h := zif_neg q h
    clear q
    refine zV_blk (pc' := 35) (lo' := [(0, .ref am), (1, .int x1), (2, .int x2), (3, .int x3), (4, .int x4)]) (st' := [.int (-1)]) [.iconst (-1)] (by decide +kernel) rfl ?_
    obtain rfl := Option.some.inj h
    exact zV_iret rfl (by decide +kernel) (hQ _ rfl hm hW hFr)
  · replace h := zif_pos q h
    clear q
    refine zV_blk (pc' := 15) (lo' := [(0, .ref am), (1, .int x1), (2, .int x2), (3, .int x3), (4, .int x4)]) (st' := [.int x3, .int x2]) [.iload_n 2, .iload_n 3] (by decide +kernel) rfl ?_
    obtain ⟨v2, hv2, h⟩ := zbind h
    refine zV_sC (idx := 358) (rest := []) (cmisSpan s0 D cB cI cJ cD x2 x3 v2 hv2) oX12_isSpan (zT_mem 1909 (by decide +kernel) rfl) (zT_mem 1910 (by decide +kernel) rfl) rfl rfl (Nat.le_of_ble_eq_true rfl) ⟨by decide, by decide⟩ (by decide +kernel) ?_
    refine zV_eq (st2 := [.int (zb v2)]) rfl rfl rfl rfl ?_
    refine zV_bif_eq (tgt := 34) (off := 16) (by decide +kernel) (by decide) (fun q => ?_) (fun q => ?_)
    · replace h := zif_neg q h
      clear q
      refine zV_blk (pc' := 35) (lo' := [(0, .ref am), (1, .int x1), (2, .int x2), (3, .int x3), (4, .int x4)]) (st' := [.int (-1)]) [.iconst (-1)] (by decide +kernel) rfl ?_
      obtain rfl := Option.some.inj h
      exact zV_iret rfl (by decide +kernel) (hQ _ rfl hm hW hFr)
    · replace h := zif_pos q h
      clear q
      refine zV_blk (pc' := 25) (lo' := [(0, .ref am), (1, .int x1), (2, .int x2), (3, .int x3), (4, .int x4)]) (st' := [.long 0, .long (x4 : Int32).toInt64]) [.iload 4, .i2l, .lconst 0] (by decide +kernel) rfl ?_
      refine zV_ldc2 (idx := 249) (v := 2) (zT_mem 1859 (by decide +kernel) rfl) (by decide +kernel) ?_
      obtain ⟨v3, hv3, h⟩ := zbind h
      refine zV_sC (idx := 36) (rest := []) (cmisIn s0 D cB cI cJ cD (x4 : Int32).toInt64 0 2 v3 hv3) oX12_isIn (zT_mem 1531 (by decide +kernel) rfl) (zT_mem 1532 (by decide +kernel) rfl) rfl rfl (Nat.le_of_ble_eq_true rfl) ⟨by decide, by decide⟩ (by decide +kernel) ?_
      refine zV_eq (st2 := [.int (zb v3)]) rfl rfl rfl rfl ?_
      refine zV_bif_ne (tgt := 36) (off := 5) (by decide +kernel) (by decide) (fun q => ?_) (fun q => ?_)
      · replace h := zif_pos q h
        clear q
        refine zV_blk (pc' := 37) (lo' := [(0, .ref am), (1, .int x1), (2, .int x2), (3, .int x3), (4, .int x4)]) (st' := [.int x1]) [.iload_n 1] (by decide +kernel) rfl ?_
        obtain ⟨v4, hv4, h⟩ := zbind h
        refine zV_sC (idx := 118) (rest := []) (cmbank s0 D cB cI cJ cD x1 v4 hv4) oX12_bank (zT_mem 1671 (by decide +kernel) rfl) (zT_mem 1672 (by decide +kernel) rfl) rfl rfl (Nat.le_of_ble_eq_true rfl) ⟨by decide, by decide⟩ (by decide +kernel) ?_
        refine zV_eq (st2 := [.int v4]) rfl rfl rfl rfl ?_
        refine zV_blk (pc' := 54) (lo' := [(11, .int x2), (10, .int 0), (8, .long 0), (6, .long 0), (5, .int v4), (0, .ref am), (1, .int x1), (2, .int x2), (3, .int x3), (4, .int x4)]) (st' := []) [.istore 5, .lconst 0, .lstore 6, .lconst 0, .lstore 8, .iconst 0, .istore 10, .iload_n 2, .istore 11] (by decide +kernel) rfl ?_
        refine zV_pick (lo2 := [(0, .ref am), (2, .int x2), (3, .int x3), (4, .int x4), (5, .int v4), (6, .long 0), (8, .long 0), (10, .int 0), (11, .int x2)]) [5, 7, 8, 9, 4, 3, 2, 1, 0] rfl ?_
        exact cmdawns_54L s0 D cB cI cJ cD am a1 a2 a3 (upd F 0 0) G tp w oc n x2 x3 x4 v4 n (0, 0, 0, x2) hW hFr h hQ
      · replace h := zif_neg q h
        clear q
        refine zV_blk (pc' := 35) (lo' := [(0, .ref am), (1, .int x1), (2, .int x2), (3, .int x3), (4, .int x4)]) (st' := [.int (-1)]) [.iconst (-1)] (by decide +kernel) rfl ?_
        obtain rfl := Option.some.inj h
        exact zV_iret rfl (by decide +kernel) (hQ _ rfl hm hW hFr)

def msteady_136 (n : Nat) (F : Nat → Int32) (w : Nat → Int32) (x3 : Int32) (x5 : Int32) (x6 : Int32) (x7 : Int64) (x9 : Int32) (x10 : Int32) (x11 : Int32) (x12 : Int32) : Option ((Int32 × Int32 × Int32 × Int32) ⊕ (Int64 × (Nat → Int32))) := some (.inl (x9, x10, x11, (x12 + 1)))
set_option maxHeartbeats 4000000 in
set_option maxRecDepth 100000 in
theorem cmsteady_136 (s0 : State) (D : va_G) (cB cI cJ cD : ClassId) (am a1 a2 a3 : Nat) (F : Nat → Int32) (G : Nat → Int64) (tp w oc : Nat → Int32) (n : Nat) (x3 : Int32) (x5 : Int32) (x6 : Int32) (x7 : Int64) (x9 : Int32) (x10 : Int32) (x11 : Int32) (x12 : Int32) {hi hm : zHp} {nx : Nat} {Q : Option Value → zHp → zHp → Nat → Prop} {hm0 : zHp} {x : (Int32 × Int32 × Int32 × Int32) ⊕ (Int64 × (Nat → Int32))} (hW : mW cB cI am a1 a2 a3 F G tp w oc hm) (hFr : mFr am a1 a2 a3 hm0 hm) (h : msteady_136 n F w x3 x5 x6 x7 x9 x10 x11 x12 = some x) (hL79 : ∀ s : Int32 × Int32 × Int32 × Int32, x = (.inl s) → ∀ hm', mW cB cI am a1 a2 a3 F G tp w oc hm' → mFr am a1 a2 a3 hm0 hm' → zV s0 D (zty cB cI cJ cD) yX12_steady cX12_steady 13 (some .long) 5 120 0 0 79 [(0, .ref am), (3, .int x3), (5, .int x5), (6, .int x6), (7, .long x7), (9, .int s.1), (10, .int s.2.1), (11, .int s.2.2.1), (12, .int s.2.2.2)] [] hi hm' nx Q) (hQ : ∀ r : Int64 × (Nat → Int32), x = (.inr r) → ∀ hm', mW cB cI am a1 a2 a3 r.2 G tp w oc hm' → mFr am a1 a2 a3 hm0 hm' → Q (some (.long r.1)) hi hm' nx) : zV s0 D (zty cB cI cJ cD) yX12_steady cX12_steady 13 (some .long) 5 120 0 0 136 [(0, .ref am), (3, .int x3), (5, .int x5), (6, .int x6), (7, .long x7), (9, .int x9), (10, .int x10), (11, .int x11), (12, .int x12)] [] hi hm nx Q := by
  unfold msteady_136 at h
  refine zV_blk (pc' := 139) (lo' := [(12, .int (x12 + 1)), (0, .ref am), (3, .int x3), (5, .int x5), (6, .int x6), (7, .long x7), (9, .int x9), (10, .int x10), (11, .int x11)]) (st' := []) [.iinc 12 1] (by decide +kernel) rfl ?_
  refine zV_goto (tgt := 79) (off := -60) (by decide +kernel) (by decide) ?_
  obtain rfl := Option.some.inj h
  refine zV_pick (lo2 := [(0, .ref am), (3, .int x3), (5, .int x5), (6, .int x6), (7, .long x7), (9, .int x9), (10, .int x10), (11, .int x11), (12, .int (x12 + 1))]) [1, 2, 3, 4, 5, 6, 7, 8, 0] rfl ?_
  exact hL79 _ rfl hm hW hFr
def msteady_111 (n : Nat) (F : Nat → Int32) (w : Nat → Int32) (x3 : Int32) (x5 : Int32) (x6 : Int32) (x7 : Int64) (x9 : Int32) (x10 : Int32) (x12 : Int32) (t0 : Int32) : Option ((Int32 × Int32 × Int32 × Int32) ⊕ (Int64 × (Nat → Int32))) := (if (x9 : Int32) < (t0 : Int32) then (msteady_136 n F w x3 x5 x6 x7 t0 ((x12 - t0) + 1) t0 x12) else (msteady_136 n F w x3 x5 x6 x7 x9 x10 t0 x12))
set_option maxHeartbeats 4000000 in
set_option maxRecDepth 100000 in
theorem cmsteady_111 (s0 : State) (D : va_G) (cB cI cJ cD : ClassId) (am a1 a2 a3 : Nat) (F : Nat → Int32) (G : Nat → Int64) (tp w oc : Nat → Int32) (n : Nat) (x3 : Int32) (x5 : Int32) (x6 : Int32) (x7 : Int64) (x9 : Int32) (x10 : Int32) (x12 : Int32) (t0 : Int32) {hi hm : zHp} {nx : Nat} {Q : Option Value → zHp → zHp → Nat → Prop} {hm0 : zHp} {x : (Int32 × Int32 × Int32 × Int32) ⊕ (Int64 × (Nat → Int32))} (hW : mW cB cI am a1 a2 a3 F G tp w oc hm) (hFr : mFr am a1 a2 a3 hm0 hm) (h : msteady_111 n F w x3 x5 x6 x7 x9 x10 x12 t0 = some x) (hL79 : ∀ s : Int32 × Int32 × Int32 × Int32, x = (.inl s) → ∀ hm', mW cB cI am a1 a2 a3 F G tp w oc hm' → mFr am a1 a2 a3 hm0 hm' → zV s0 D (zty cB cI cJ cD) yX12_steady cX12_steady 13 (some .long) 5 120 0 0 79 [(0, .ref am), (3, .int x3), (5, .int x5), (6, .int x6), (7, .long x7), (9, .int s.1), (10, .int s.2.1), (11, .int s.2.2.1), (12, .int s.2.2.2)] [] hi hm' nx Q) (hQ : ∀ r : Int64 × (Nat → Int32), x = (.inr r) → ∀ hm', mW cB cI am a1 a2 a3 r.2 G tp w oc hm' → mFr am a1 a2 a3 hm0 hm' → Q (some (.long r.1)) hi hm' nx) : zV s0 D (zty cB cI cJ cD) yX12_steady cX12_steady 13 (some .long) 5 120 0 0 111 [(0, .ref am), (3, .int x3), (5, .int x5), (6, .int x6), (7, .long x7), (9, .int x9), (10, .int x10), (12, .int x12)] [.int t0] hi hm nx Q := by
  unfold msteady_111 at h
  refine zV_blk (pc' := 117) (lo' := [(11, .int t0), (0, .ref am), (3, .int x3), (5, .int x5), (6, .int x6), (7, .long x7), (9, .int x9), (10, .int x10), (12, .int x12)]) (st' := [.int x9, .int t0]) [.istore 11, .iload 11, .iload 9] (by decide +kernel) rfl ?_
  refine zV_icmp_gt (tgt := 123) (off := 6) (by decide +kernel) (by decide) (fun q => ?_) (fun q => ?_)
  · replace h := zif_pos q h
    clear q
    refine zV_blk (pc' := 136) (lo' := [(10, .int ((x12 - t0) + 1)), (9, .int t0), (11, .int t0), (0, .ref am), (3, .int x3), (5, .int x5), (6, .int x6), (7, .long x7), (12, .int x12)]) (st' := []) [.iload 11, .istore 9, .iload 12, .iload 11, .isub, .iconst 1, .iadd, .istore 10] (by decide +kernel) rfl ?_
    refine zV_pick (lo2 := [(0, .ref am), (3, .int x3), (5, .int x5), (6, .int x6), (7, .long x7), (9, .int t0), (10, .int ((x12 - t0) + 1)), (11, .int t0), (12, .int x12)]) [3, 4, 5, 6, 7, 1, 0, 2, 8] rfl ?_
    exact cmsteady_136 s0 D cB cI cJ cD am a1 a2 a3 F G tp w oc n x3 x5 x6 x7 t0 ((x12 - t0) + 1) t0 x12 hW hFr h hL79 hQ
  · replace h := zif_neg q h
    clear q
    refine zV_goto (tgt := 136) (off := 16) (by decide +kernel) (by decide) ?_
    refine zV_pick (lo2 := [(0, .ref am), (3, .int x3), (5, .int x5), (6, .int x6), (7, .long x7), (9, .int x9), (10, .int x10), (11, .int t0), (12, .int x12)]) [1, 2, 3, 4, 5, 6, 7, 0, 8] rfl ?_
    exact cmsteady_136 s0 D cB cI cJ cD am a1 a2 a3 F G tp w oc n x3 x5 x6 x7 x9 x10 t0 x12 hW hFr h hL79 hQ
def msteady_79 (n : Nat) (F : Nat → Int32) (w : Nat → Int32) (x3 : Int32) (x5 : Int32) (x6 : Int32) (x7 : Int64) (s : Int32 × Int32 × Int32 × Int32) : Option ((Int32 × Int32 × Int32 × Int32) ⊕ (Int64 × (Nat → Int32))) := (if (x3 : Int32) < (s.2.2.2 : Int32) then (if (x5 : Int32) = (0 : Int32) then some (.inr ((s.1 : Int32).toInt64, F)) else some (.inr ((s.2.1 : Int32).toInt64, F))) else (mdriftOf n w x6 (s.2.2.2 : Int32).toInt64).bind (fun v1 => (msize v1).bind (fun v2 => (if (x7 : Int64) < (v2 : Int64) then (msteady_111 n F w x3 x5 x6 x7 s.1 s.2.1 s.2.2.2 0) else (msteady_111 n F w x3 x5 x6 x7 s.1 s.2.1 s.2.2.2 (s.2.2.1 + 1))))))
set_option maxHeartbeats 4000000 in
set_option maxRecDepth 100000 in
theorem cmsteady_79 (s0 : State) (D : va_G) (cB cI cJ cD : ClassId) (am a1 a2 a3 : Nat) (F : Nat → Int32) (G : Nat → Int64) (tp : Nat → Int32) (w : Nat → Int32) (oc : Nat → Int32) (n : Nat) (x3 : Int32) (x5 : Int32) (x6 : Int32) (x7 : Int64) (s : Int32 × Int32 × Int32 × Int32) (x : (Int32 × Int32 × Int32 × Int32) ⊕ (Int64 × (Nat → Int32))) {hi hm : zHp} {nx : Nat} {Q : Option Value → zHp → zHp → Nat → Prop} {hm0 : zHp} (hW : mW cB cI am a1 a2 a3 F G tp w oc hm) (hFr : mFr am a1 a2 a3 hm0 hm) (h : msteady_79 n F w x3 x5 x6 x7 s = some x) (hL79 : ∀ s : Int32 × Int32 × Int32 × Int32, x = (.inl s) → ∀ hm', mW cB cI am a1 a2 a3 F G tp w oc hm' → mFr am a1 a2 a3 hm0 hm' → zV s0 D (zty cB cI cJ cD) yX12_steady cX12_steady 13 (some .long) 5 120 0 0 79 [(0, .ref am), (3, .int x3), (5, .int x5), (6, .int x6), (7, .long x7), (9, .int s.1), (10, .int s.2.1), (11, .int s.2.2.1), (12, .int s.2.2.2)] [] hi hm' nx Q) (hQ : ∀ r : Int64 × (Nat → Int32), x = (.inr r) → ∀ hm', mW cB cI am a1 a2 a3 r.2 G tp w oc hm' → mFr am a1 a2 a3 hm0 hm' → Q (some (.long r.1)) hi hm' nx) : zV s0 D (zty cB cI cJ cD) yX12_steady cX12_steady 13 (some .long) 5 120 0 0 79 [(0, .ref am), (3, .int x3), (5, .int x5), (6, .int x6), (7, .long x7), (9, .int s.1), (10, .int s.2.1), (11, .int s.2.2.1), (12, .int s.2.2.2)] [] hi hm nx Q := by
  unfold msteady_79 at h
  refine zV_blk (pc' := 82) (lo' := [(0, .ref am), (3, .int x3), (5, .int x5), (6, .int x6), (7, .long x7), (9, .int s.1), (10, .int s.2.1), (11, .int s.2.2.1), (12, .int s.2.2.2)]) (st' := [.int x3, .int s.2.2.2]) [.iload 12, .iload_n 3] (by decide +kernel) rfl ?_
  refine zV_icmp_gt (tgt := 142) (off := 60) (by decide +kernel) (by decide) (fun q => ?_) (fun q => ?_)
  · replace h := zif_pos q h
    clear q
    refine zV_blk (pc' := 144) (lo' := [(0, .ref am), (3, .int x3), (5, .int x5), (6, .int x6), (7, .long x7), (9, .int s.1), (10, .int s.2.1), (11, .int s.2.2.1), (12, .int s.2.2.2)]) (st' := [.int x5]) [.iload 5] (by decide +kernel) rfl ?_
    refine zV_if_ne (tgt := 153) (off := 9) (by decide +kernel) (by decide) (fun q => ?_) (fun q => ?_)
    · replace h := zif_neg q h
      clear q
      refine zV_blk (pc' := 156) (lo' := [(0, .ref am), (3, .int x3), (5, .int x5), (6, .int x6), (7, .long x7), (9, .int s.1), (10, .int s.2.1), (11, .int s.2.2.1), (12, .int s.2.2.2)]) (st' := [.long (s.2.1 : Int32).toInt64]) [.iload 10, .i2l] (by decide +kernel) rfl ?_
      obtain rfl := Option.some.inj h
      exact zV_lret rfl (by decide +kernel) (hQ _ rfl hm hW hFr)
    · replace h := zif_pos q h
      clear q
      refine zV_blk (pc' := 150) (lo' := [(0, .ref am), (3, .int x3), (5, .int x5), (6, .int x6), (7, .long x7), (9, .int s.1), (10, .int s.2.1), (11, .int s.2.2.1), (12, .int s.2.2.2)]) (st' := [.long (s.1 : Int32).toInt64]) [.iload 9, .i2l] (by decide +kernel) rfl ?_
      refine zV_goto (tgt := 156) (off := 6) (by decide +kernel) (by decide) ?_
      obtain rfl := Option.some.inj h
      exact zV_lret rfl (by decide +kernel) (hQ _ rfl hm hW hFr)
  · replace h := zif_neg q h
    clear q
    refine zV_blk (pc' := 91) (lo' := [(0, .ref am), (3, .int x3), (5, .int x5), (6, .int x6), (7, .long x7), (9, .int s.1), (10, .int s.2.1), (11, .int s.2.2.1), (12, .int s.2.2.2)]) (st' := [.long (s.2.2.2 : Int32).toInt64, .int x6, .ref am]) [.aload_n 0, .iload 6, .iload 12, .i2l] (by decide +kernel) rfl ?_
    obtain ⟨v1, hv1, h⟩ := zbind h
    refine m_cR (idx := 353) (rest := []) hW (cmdriftOf s0 D cB cI cJ cD am a1 a2 a3 F G tp w oc n x6 (s.2.2.2 : Int32).toInt64 v1 hv1) oX12_driftOf rfl (zT_mem 1893 (by decide +kernel) rfl) (zT_mem 1895 (by decide +kernel) rfl) (zT_mem 73 (by decide +kernel) rfl) rfl rfl (Nat.le_of_ble_eq_true rfl) ⟨by decide, by decide⟩ (by decide +kernel) ?_
    refine zV_eq (st2 := [.long v1]) rfl rfl rfl rfl ?_
    obtain ⟨v2, hv2, h⟩ := zbind h
    refine zV_sC (idx := 32) (rest := []) (cmsize s0 D cB cI cJ cD v1 v2 hv2) oX12_size (zT_mem 1739 (by decide +kernel) rfl) (zT_mem 1740 (by decide +kernel) rfl) rfl rfl (Nat.le_of_ble_eq_true rfl) ⟨by decide, by decide⟩ (by decide +kernel) ?_
    refine zV_eq (st2 := [.long v2]) rfl rfl rfl rfl ?_
    refine zV_blk (pc' := 100) (lo' := [(0, .ref am), (3, .int x3), (5, .int x5), (6, .int x6), (7, .long x7), (9, .int s.1), (10, .int s.2.1), (11, .int s.2.2.1), (12, .int s.2.2.2)]) (st' := [.int (lg_cmp v2 x7)]) [.lload 7, .lcmp] (by decide +kernel) rfl ?_
    refine zV_lcmp_gt (tgt := 110) (off := 10) (by decide +kernel) (by decide) (fun q => ?_) (fun q => ?_)
    · replace h := zif_pos q h
      clear q
      refine zV_blk (pc' := 111) (lo' := [(0, .ref am), (3, .int x3), (5, .int x5), (6, .int x6), (7, .long x7), (9, .int s.1), (10, .int s.2.1), (11, .int s.2.2.1), (12, .int s.2.2.2)]) (st' := [.int 0]) [.iconst 0] (by decide +kernel) rfl ?_
      refine zV_pick (lo2 := [(0, .ref am), (3, .int x3), (5, .int x5), (6, .int x6), (7, .long x7), (9, .int s.1), (10, .int s.2.1), (12, .int s.2.2.2)]) [0, 1, 2, 3, 4, 5, 6, 8] rfl ?_
      exact cmsteady_111 s0 D cB cI cJ cD am a1 a2 a3 F G tp w oc n x3 x5 x6 x7 s.1 s.2.1 s.2.2.2 0 hW hFr h hL79 hQ
    · replace h := zif_neg q h
      clear q
      refine zV_blk (pc' := 107) (lo' := [(0, .ref am), (3, .int x3), (5, .int x5), (6, .int x6), (7, .long x7), (9, .int s.1), (10, .int s.2.1), (11, .int s.2.2.1), (12, .int s.2.2.2)]) (st' := [.int (s.2.2.1 + 1)]) [.iload 11, .iconst 1, .iadd] (by decide +kernel) rfl ?_
      refine zV_goto (tgt := 111) (off := 4) (by decide +kernel) (by decide) ?_
      refine zV_pick (lo2 := [(0, .ref am), (3, .int x3), (5, .int x5), (6, .int x6), (7, .long x7), (9, .int s.1), (10, .int s.2.1), (12, .int s.2.2.2)]) [0, 1, 2, 3, 4, 5, 6, 8] rfl ?_
      exact cmsteady_111 s0 D cB cI cJ cD am a1 a2 a3 F G tp w oc n x3 x5 x6 x7 s.1 s.2.1 s.2.2.2 (s.2.2.1 + 1) hW hFr h hL79 hQ
theorem cmsteady_79L (s0 : State) (D : va_G) (cB cI cJ cD : ClassId) (am a1 a2 a3 : Nat) (F : Nat → Int32) (G : Nat → Int64) (tp : Nat → Int32) (w : Nat → Int32) (oc : Nat → Int32) (n : Nat) (x3 : Int32) (x5 : Int32) (x6 : Int32) (x7 : Int64) : ∀ (k : Nat) (s : Int32 × Int32 × Int32 × Int32) {hi hm : zHp} {nx : Nat} {Q : Option Value → zHp → zHp → Nat → Prop} {hm0 : zHp} (_ : mW cB cI am a1 a2 a3 F G tp w oc hm) (_ : mFr am a1 a2 a3 hm0 hm) {x : Int64 × (Nat → Int32)} (_ : zloop (msteady_79 n F w x3 x5 x6 x7) k s = some x) (hQ : ∀ r : Int64 × (Nat → Int32), x = r → ∀ hm', mW cB cI am a1 a2 a3 r.2 G tp w oc hm' → mFr am a1 a2 a3 hm0 hm' → Q (some (.long r.1)) hi hm' nx), zV s0 D (zty cB cI cJ cD) yX12_steady cX12_steady 13 (some .long) 5 120 0 0 79 [(0, .ref am), (3, .int x3), (5, .int x5), (6, .int x6), (7, .long x7), (9, .int s.1), (10, .int s.2.1), (11, .int s.2.2.1), (12, .int s.2.2.2)] [] hi hm nx Q
  | 0, s, _, _, _, _, _, hW, hFr, _, h, _ => by cases h
  | k + 1, s, hi, hm, nx, Q, hm0, hW, hFr, x, h, hQ => by
    obtain ⟨z, hz, h1, h2⟩ := zloop_succ h
    exact cmsteady_79 s0 D cB cI cJ cD am a1 a2 a3 F G tp w oc n x3 x5 x6 x7 s z hW hFr hz (fun s' hs hm' hW' hFr' => cmsteady_79L s0 D cB cI cJ cD am a1 a2 a3 F G tp w oc n x3 x5 x6 x7 k s' hW' hFr' (h1 s' hs) hQ) (fun r hr hm' hW' hFr' => hQ r (h2 _ hr).symm hm' hW' hFr')
def msteady (n : Nat) (F : Nat → Int32) (w : Nat → Int32) (x1 : Int32) (x2 : Int32) (x3 : Int32) (x4 : Int32) (x5 : Int32) : Option (Int64 × (Nat → Int32)) := (misThere w x1).bind (fun v1 => (if v1 = true then (misSpan x2 x3).bind (fun v2 => (if v2 = true then (misIn (x4 : Int32).toInt64 0 9999).bind (fun v3 => (if v3 = true then (misIn (x5 : Int32).toInt64 0 1).bind (fun v4 => (if v4 = true then (mbank x1).bind (fun v5 => (mbelowOf n w v5).bind (fun v6 => (zloop (msteady_79 n (upd F 0 0) w x3 x5 v5 ((x4 : Int32).toInt64 * v6)) n (0, (-1), 0, x2)))) else some ((-1000000000000000), (upd F 0 0)))) else some ((-1000000000000000), (upd F 0 0)))) else some ((-1000000000000000), (upd F 0 0)))) else some ((-1000000000000000), (upd F 0 0))))
theorem oX12_steady : zO yX12_steady cX12_steady 13 (some .long) 5 := ⟨zT_mem 1933 (by decide +kernel) rfl, zT_mem 94 (by decide +kernel) rfl, by decide +kernel, by decide +kernel, by decide +kernel⟩
set_option maxHeartbeats 4000000 in
set_option maxRecDepth 100000 in
theorem cmsteady (s0 : State) (D : va_G) (cB cI cJ cD : ClassId) (am a1 a2 a3 : Nat) (F : Nat → Int32) (G : Nat → Int64) (tp w oc : Nat → Int32) (n : Nat) (x1 : Int32) (x2 : Int32) (x3 : Int32) (x4 : Int32) (x5 : Int32) (x : Int64 × (Nat → Int32)) (h : msteady n F w x1 x2 x3 x4 x5 = some x) : mC s0 D cB cI cJ cD am a1 a2 a3 yX12_steady cX12_steady 13 (some .long) 5 120 [.int x1, .int x2, .int x3, .int x4, .int x5] F G tp w oc (some (.long x.1)) x.2 G tp w oc := by
  intro hi hm nx Q hW hQ0
  have hQ : ∀ r : Int64 × (Nat → Int32), x = r → ∀ hm', mW cB cI am a1 a2 a3 r.2 G tp w oc hm' → mFr am a1 a2 a3 hm hm' → Q (some (.long r.1)) hi hm' nx := fun r hr => by subst hr; exact hQ0
  have hFr : mFr am a1 a2 a3 hm hm := mFr.rf
  clear hQ0
  refine zM_of (by decide +kernel) (Nat.le_of_ble_eq_true rfl) ?_
  unfold msteady at h
  refine zV_eq (lo2 := [(0, .ref am), (1, .int x1), (2, .int x2), (3, .int x3), (4, .int x4), (5, .int x5)]) rfl rfl rfl rfl ?_
  refine zV_blk (pc' := 2) (lo' := [(0, .ref am), (1, .int x1), (2, .int x2), (3, .int x3), (4, .int x4), (5, .int x5)]) (st' := [.int 0, .ref am]) [.aload_n 0, .iconst 0] (by decide +kernel) rfl ?_
  refine m_put (idx := 25) (k := 0) (v := .int 0) (F' := (upd F 0 0)) (G' := G) hW m_in12 (by decide) (zT_mem 1440 (by decide +kernel) rfl) rfl rfl rfl rfl (by decide +kernel) (fun hm hW hFr2 => ?_)
  replace hFr := hFr.tr hFr2; clear hFr2
  refine zV_blk (pc' := 7) (lo' := [(0, .ref am), (1, .int x1), (2, .int x2), (3, .int x3), (4, .int x4), (5, .int x5)]) (st' := [.int x1, .ref am]) [.aload_n 0, .iload_n 1] (by decide +kernel) rfl ?_
  obtain ⟨v1, hv1, h⟩ := zbind h
  refine m_cR (idx := 273) (rest := []) hW (cmisThere s0 D cB cI cJ cD am a1 a2 a3 (upd F 0 0) G tp w oc x1 v1 hv1) oX12_isThere rfl (zT_mem 1686 (by decide +kernel) rfl) (zT_mem 1688 (by decide +kernel) rfl) (zT_mem 49 (by decide +kernel) rfl) rfl rfl (Nat.le_of_ble_eq_true rfl) ⟨by decide, by decide⟩ (by decide +kernel) ?_
  refine zV_eq (st2 := [.int (zb v1)]) rfl rfl rfl rfl ?_
  refine zV_bif_eq (tgt := 45) (off := 35) (by decide +kernel) (by decide) (fun q => ?_) (fun q => ?_)
  · replace h := zif_neg q h
    clear q
    refine zV_ldc2 (idx := 40) (v := (-1000000000000000)) (zT_mem 1728 (by decide +kernel) rfl) (by decide +kernel) ?_
    obtain rfl := Option.some.inj h
    exact zV_lret rfl (by decide +kernel) (hQ _ rfl hm hW hFr)
  · replace h := zif_pos q h
    clear q
    refine zV_blk (pc' := 15) (lo' := [(0, .ref am), (1, .int x1), (2, .int x2), (3, .int x3), (4, .int x4), (5, .int x5)]) (st' := [.int x3, .int x2]) [.iload_n 2, .iload_n 3] (by decide +kernel) rfl ?_
    obtain ⟨v2, hv2, h⟩ := zbind h
    refine zV_sC (idx := 358) (rest := []) (cmisSpan s0 D cB cI cJ cD x2 x3 v2 hv2) oX12_isSpan (zT_mem 1909 (by decide +kernel) rfl) (zT_mem 1910 (by decide +kernel) rfl) rfl rfl (Nat.le_of_ble_eq_true rfl) ⟨by decide, by decide⟩ (by decide +kernel) ?_
    refine zV_eq (st2 := [.int (zb v2)]) rfl rfl rfl rfl ?_
    refine zV_bif_eq (tgt := 45) (off := 27) (by decide +kernel) (by decide) (fun q => ?_) (fun q => ?_)
    · replace h := zif_neg q h
      clear q
      refine zV_ldc2 (idx := 40) (v := (-1000000000000000)) (zT_mem 1728 (by decide +kernel) rfl) (by decide +kernel) ?_
      obtain rfl := Option.some.inj h
      exact zV_lret rfl (by decide +kernel) (hQ _ rfl hm hW hFr)
    · replace h := zif_pos q h
      clear q
      refine zV_blk (pc' := 25) (lo' := [(0, .ref am), (1, .int x1), (2, .int x2), (3, .int x3), (4, .int x4), (5, .int x5)]) (st' := [.long 0, .long (x4 : Int32).toInt64]) [.iload 4, .i2l, .lconst 0] (by decide +kernel) rfl ?_
      refine zV_ldc2 (idx := 361) (v := 9999) (zT_mem 1917 (by decide +kernel) rfl) (by decide +kernel) ?_
      obtain ⟨v3, hv3, h⟩ := zbind h
      refine zV_sC (idx := 36) (rest := []) (cmisIn s0 D cB cI cJ cD (x4 : Int32).toInt64 0 9999 v3 hv3) oX12_isIn (zT_mem 1531 (by decide +kernel) rfl) (zT_mem 1532 (by decide +kernel) rfl) rfl rfl (Nat.le_of_ble_eq_true rfl) ⟨by decide, by decide⟩ (by decide +kernel) ?_
      refine zV_eq (st2 := [.int (zb v3)]) rfl rfl rfl rfl ?_
      refine zV_bif_eq (tgt := 45) (off := 14) (by decide +kernel) (by decide) (fun q => ?_) (fun q => ?_)
      · replace h := zif_neg q h
        clear q
        refine zV_ldc2 (idx := 40) (v := (-1000000000000000)) (zT_mem 1728 (by decide +kernel) rfl) (by decide +kernel) ?_
        obtain rfl := Option.some.inj h
        exact zV_lret rfl (by decide +kernel) (hQ _ rfl hm hW hFr)
      · replace h := zif_pos q h
        clear q
        refine zV_blk (pc' := 39) (lo' := [(0, .ref am), (1, .int x1), (2, .int x2), (3, .int x3), (4, .int x4), (5, .int x5)]) (st' := [.long 1, .long 0, .long (x5 : Int32).toInt64]) [.iload 5, .i2l, .lconst 0, .lconst 1] (by decide +kernel) rfl ?_
        obtain ⟨v4, hv4, h⟩ := zbind h
        refine zV_sC (idx := 36) (rest := []) (cmisIn s0 D cB cI cJ cD (x5 : Int32).toInt64 0 1 v4 hv4) oX12_isIn (zT_mem 1531 (by decide +kernel) rfl) (zT_mem 1532 (by decide +kernel) rfl) rfl rfl (Nat.le_of_ble_eq_true rfl) ⟨by decide, by decide⟩ (by decide +kernel) ?_
        refine zV_eq (st2 := [.int (zb v4)]) rfl rfl rfl rfl ?_
        refine zV_bif_ne (tgt := 49) (off := 7) (by decide +kernel) (by decide) (fun q => ?_) (fun q => ?_)
        · replace h := zif_pos q h
          clear q
          refine zV_blk (pc' := 50) (lo' := [(0, .ref am), (1, .int x1), (2, .int x2), (3, .int x3), (4, .int x4), (5, .int x5)]) (st' := [.int x1]) [.iload_n 1] (by decide +kernel) rfl ?_
          obtain ⟨v5, hv5, h⟩ := zbind h
          refine zV_sC (idx := 118) (rest := []) (cmbank s0 D cB cI cJ cD x1 v5 hv5) oX12_bank (zT_mem 1671 (by decide +kernel) rfl) (zT_mem 1672 (by decide +kernel) rfl) rfl rfl (Nat.le_of_ble_eq_true rfl) ⟨by decide, by decide⟩ (by decide +kernel) ?_
          refine zV_eq (st2 := [.int v5]) rfl rfl rfl rfl ?_
          refine zV_blk (pc' := 61) (lo' := [(6, .int v5), (0, .ref am), (1, .int x1), (2, .int x2), (3, .int x3), (4, .int x4), (5, .int x5)]) (st' := [.int v5, .ref am, .long (x4 : Int32).toInt64]) [.istore 6, .iload 4, .i2l, .aload_n 0, .iload 6] (by decide +kernel) rfl ?_
          obtain ⟨v6, hv6, h⟩ := zbind h
          refine m_cR (idx := 347) (rest := [.long (x4 : Int32).toInt64]) hW (cmbelowOf s0 D cB cI cJ cD am a1 a2 a3 (upd F 0 0) G tp w oc n v5 v6 hv6) oX12_belowOf rfl (zT_mem 1897 (by decide +kernel) rfl) (zT_mem 1899 (by decide +kernel) rfl) (zT_mem 74 (by decide +kernel) rfl) rfl rfl (Nat.le_of_ble_eq_true rfl) ⟨by decide, by decide⟩ (by decide +kernel) ?_
          refine zV_eq (st2 := [.long v6, .long (x4 : Int32).toInt64]) rfl rfl rfl rfl ?_
          refine zV_blk (pc' := 79) (lo' := [(12, .int x2), (11, .int 0), (10, .int (-1)), (9, .int 0), (7, .long ((x4 : Int32).toInt64 * v6)), (6, .int v5), (0, .ref am), (1, .int x1), (2, .int x2), (3, .int x3), (4, .int x4), (5, .int x5)]) (st' := []) [.lmul, .lstore 7, .iconst 0, .istore 9, .iconst (-1), .istore 10, .iconst 0, .istore 11, .iload_n 2, .istore 12] (by decide +kernel) rfl ?_
          refine zV_pick (lo2 := [(0, .ref am), (3, .int x3), (5, .int x5), (6, .int v5), (7, .long ((x4 : Int32).toInt64 * v6)), (9, .int 0), (10, .int (-1)), (11, .int 0), (12, .int x2)]) [6, 9, 11, 5, 4, 3, 2, 1, 0] rfl ?_
          exact cmsteady_79L s0 D cB cI cJ cD am a1 a2 a3 (upd F 0 0) G tp w oc n x3 x5 v5 ((x4 : Int32).toInt64 * v6) n (0, (-1), 0, x2) hW hFr h hQ
        · replace h := zif_neg q h
          clear q
          refine zV_ldc2 (idx := 40) (v := (-1000000000000000)) (zT_mem 1728 (by decide +kernel) rfl) (by decide +kernel) ?_
          obtain rfl := Option.some.inj h
          exact zV_lret rfl (by decide +kernel) (hQ _ rfl hm hW hFr)

