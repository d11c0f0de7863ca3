def k_tellSteady_113 (n : Nat) (x0 : vDes) (x2 : Int32) (x4 : Int32) (x5 : Int64) (x7 : Int64) (x9 : Int64) (x13 : Int32) (x14 : Int32) (x15 : Int32) (x16 : Int32) (t0 : Int64) (t1 : Int64) : Option ((Int64 × Int32 × Int32 × Int32 × Int32) ⊕ (Int64)) := some (.inl ((t0 + t1), x13, x14, x15, (x16 + 1)))
set_option maxHeartbeats 4000000 in
set_option maxRecDepth 100000 in
theorem ck_tellSteady_113 (s0 : State) (D : va_G) (cB cI cJ cD : ClassId) (n : Nat) (x0 : vDes) (x2 : Int32) (x4 : Int32) (x5 : Int64) (x7 : Int64) (x9 : Int64) (x13 : Int32) (x14 : Int32) (x15 : Int32) (x16 : Int32) (t0 : Int64) (t1 : Int64) (a0 : Nat) {x : (Int64 × Int32 × Int32 × Int32 × Int32) ⊕ (Int64)} {hi hm : zHp} {nx : Nat} {Q : Option Value → zHp → zHp → Nat → Prop} (ho0 : iDes cI hi a0 x0) (h : k_tellSteady_113 n x0 x2 x4 x5 x7 x9 x13 x14 x15 x16 t0 t1 = some x) (hL45 : ∀ s : Int64 × Int32 × Int32 × Int32 × Int32, x = (.inl s) → zV s0 D (zty cB cI cJ cD) yX0_tellSteady cX0_tellSteady 17 (some .long) 5 109 0 0 45 [(0, .ref a0), (2, .int x2), (4, .int x4), (5, .long x5), (7, .long x7), (9, .long x9), (11, .long s.1), (13, .int s.2.1), (14, .int s.2.2.1), (15, .int s.2.2.2.1), (16, .int s.2.2.2.2)] [] hi hm nx Q) (hQ : ∀ r : Int64, x = (.inr r) → Q (some (.long r)) hi hm nx) : zV s0 D (zty cB cI cJ cD) yX0_tellSteady cX0_tellSteady 17 (some .long) 5 109 0 0 113 [(0, .ref a0), (2, .int x2), (4, .int x4), (5, .long x5), (7, .long x7), (9, .long x9), (13, .int x13), (14, .int x14), (15, .int x15), (16, .int x16)] [.long t1, .long t0] hi hm nx Q := by
  unfold k_tellSteady_113 at h
  refine zV_blk (pc' := 119) (lo' := [(16, .int (x16 + 1)), (11, .long (t0 + t1)), (0, .ref a0), (2, .int x2), (4, .int x4), (5, .long x5), (7, .long x7), (9, .long x9), (13, .int x13), (14, .int x14), (15, .int x15)]) (st' := []) [.ladd, .lstore 11, .iinc 16 1] (by decide +kernel) rfl ?_
  refine zV_goto (tgt := 45) (off := -74) (by decide +kernel) (by decide) ?_
  obtain rfl := Option.some.inj h
  refine zV_pick (lo2 := [(0, .ref a0), (2, .int x2), (4, .int x4), (5, .long x5), (7, .long x7), (9, .long x9), (11, .long (t0 + t1)), (13, .int x13), (14, .int x14), (15, .int x15), (16, .int (x16 + 1))]) [2, 3, 4, 5, 6, 7, 1, 8, 9, 10, 0] rfl ?_
  exact hL45 _ rfl
def k_tellSteady_92 (n : Nat) (x0 : vDes) (x2 : Int32) (x4 : Int32) (x5 : Int64) (x7 : Int64) (x9 : Int64) (x11 : Int64) (x13 : Int32) (x14 : Int32) (x15 : Int32) (x16 : Int32) : Option ((Int64 × Int32 × Int32 × Int32 × Int32) ⊕ (Int64)) := (d_isLeap n x0.2.1 x16).bind (fun v8 => (if v8 = true then (k_tellSteady_113 n x0 x2 x4 x5 x7 x9 x13 x14 x15 x16 x11 x7) else (k_tellSteady_113 n x0 x2 x4 x5 x7 x9 x13 x14 x15 x16 x11 x5)))
set_option maxHeartbeats 4000000 in
set_option maxRecDepth 100000 in
theorem ck_tellSteady_92 (s0 : State) (D : va_G) (cB cI cJ cD : ClassId) (n : Nat) (x0 : vDes) (x2 : Int32) (x4 : Int32) (x5 : Int64) (x7 : Int64) (x9 : Int64) (x11 : Int64) (x13 : Int32) (x14 : Int32) (x15 : Int32) (x16 : Int32) (a0 : Nat) {x : (Int64 × Int32 × Int32 × Int32 × Int32) ⊕ (Int64)} {hi hm : zHp} {nx : Nat} {Q : Option Value → zHp → zHp → Nat → Prop} (ho0 : iDes cI hi a0 x0) (h : k_tellSteady_92 n x0 x2 x4 x5 x7 x9 x11 x13 x14 x15 x16 = some x) (hL45 : ∀ s : Int64 × Int32 × Int32 × Int32 × Int32, x = (.inl s) → zV s0 D (zty cB cI cJ cD) yX0_tellSteady cX0_tellSteady 17 (some .long) 5 109 0 0 45 [(0, .ref a0), (2, .int x2), (4, .int x4), (5, .long x5), (7, .long x7), (9, .long x9), (11, .long s.1), (13, .int s.2.1), (14, .int s.2.2.1), (15, .int s.2.2.2.1), (16, .int s.2.2.2.2)] [] hi hm nx Q) (hQ : ∀ r : Int64, x = (.inr r) → Q (some (.long r)) hi hm nx) : zV s0 D (zty cB cI cJ cD) yX0_tellSteady cX0_tellSteady 17 (some .long) 5 109 0 0 92 [(0, .ref a0), (2, .int x2), (4, .int x4), (5, .long x5), (7, .long x7), (9, .long x9), (11, .long x11), (13, .int x13), (14, .int x14), (15, .int x15), (16, .int x16)] [] hi hm nx Q := by
  unfold k_tellSteady_92 at h
  refine zV_blk (pc' := 95) (lo' := [(0, .ref a0), (2, .int x2), (4, .int x4), (5, .long x5), (7, .long x7), (9, .long x9), (11, .long x11), (13, .int x13), (14, .int x14), (15, .int x15), (16, .int x16)]) (st' := [.ref a0, .long x11]) [.lload 11, .aload_n 0] (by decide +kernel) rfl ?_
  obtain ⟨b1, b2, b3, hc4, hc5, hc6, hc7⟩ := ho0
  refine zV_get (ci := 0) (idx := 15) (k := 1) (N := 3) (fs := [.ref b1, .ref b2, .ref b3]) (v := .ref b2) (Or.inl hc4) rfl z_in0 (by decide) (zT_mem 565 (by decide +kernel) rfl) rfl (by decide +kernel) ?_
  refine zV_blk (pc' := 100) (lo' := [(0, .ref a0), (2, .int x2), (4, .int x4), (5, .long x5), (7, .long x7), (9, .long x9), (11, .long x11), (13, .int x13), (14, .int x14), (15, .int x15), (16, .int x16)]) (st' := [.int x16, .ref b2, .long x11]) [.iload 16] (by decide +kernel) rfl ?_
  obtain ⟨v8, hv8, h⟩ := zbind h
  refine dc_isLeap s0 D cB cI cJ cD (idx := 70) n x0.2.1 x16 b2 v8 hv8 hc6 (zT_mem 1045 (by decide +kernel) rfl) (rest := [.long x11]) rfl (Nat.le_of_ble_eq_true rfl) ⟨by decide, by decide⟩ (by decide +kernel) ?_
  refine zV_eq (st2 := [.int (zb v8), .long x11]) rfl rfl rfl rfl ?_
  refine zV_bif_eq (tgt := 111) (off := 8) (by decide +kernel) (by decide) (fun q => ?_) (fun q => ?_)
  · replace h := zif_neg q h
    clear q
    refine zV_blk (pc' := 113) (lo' := [(0, .ref a0), (2, .int x2), (4, .int x4), (5, .long x5), (7, .long x7), (9, .long x9), (11, .long x11), (13, .int x13), (14, .int x14), (15, .int x15), (16, .int x16)]) (st' := [.long x5, .long x11]) [.lload 5] (by decide +kernel) rfl ?_
    refine zV_pick (lo2 := [(0, .ref a0), (2, .int x2), (4, .int x4), (5, .long x5), (7, .long x7), (9, .long x9), (13, .int x13), (14, .int x14), (15, .int x15), (16, .int x16)]) [0, 1, 2, 3, 4, 5, 7, 8, 9, 10] rfl ?_
    exact ck_tellSteady_113 s0 D cB cI cJ cD n x0 x2 x4 x5 x7 x9 x13 x14 x15 x16 x11 x5 a0 ⟨b1, b2, b3, hc4, hc5, hc6, hc7⟩ h hL45 hQ
  · replace h := zif_pos q h
    clear q
    refine zV_blk (pc' := 108) (lo' := [(0, .ref a0), (2, .int x2), (4, .int x4), (5, .long x5), (7, .long x7), (9, .long x9), (11, .long x11), (13, .int x13), (14, .int x14), (15, .int x15), (16, .int x16)]) (st' := [.long x7, .long x11]) [.lload 7] (by decide +kernel) rfl ?_
    refine zV_goto (tgt := 113) (off := 5) (by decide +kernel) (by decide) ?_
    refine zV_pick (lo2 := [(0, .ref a0), (2, .int x2), (4, .int x4), (5, .long x5), (7, .long x7), (9, .long x9), (13, .int x13), (14, .int x14), (15, .int x15), (16, .int x16)]) [0, 1, 2, 3, 4, 5, 7, 8, 9, 10] rfl ?_
    exact ck_tellSteady_113 s0 D cB cI cJ cD n x0 x2 x4 x5 x7 x9 x13 x14 x15 x16 x11 x7 a0 ⟨b1, b2, b3, hc4, hc5, hc6, hc7⟩ h hL45 hQ
def k_tellSteady_70 (n : Nat) (x0 : vDes) (x2 : Int32) (x4 : Int32) (x5 : Int64) (x7 : Int64) (x9 : Int64) (x11 : Int64) (x14 : Int32) (x15 : Int32) (x16 : Int32) (t0 : Int32) : Option ((Int64 × Int32 × Int32 × Int32 × Int32) ⊕ (Int64)) := (if (t0 : Int32) ≤ (x14 : Int32) then (k_tellSteady_92 n x0 x2 x4 x5 x7 x9 x11 t0 x14 x15 x16 ) else (k_tellSteady_92 n x0 x2 x4 x5 x7 x9 x11 t0 t0 ((x16 - t0) + 1) x16 ))
set_option maxHeartbeats 4000000 in
set_option maxRecDepth 100000 in
theorem ck_tellSteady_70 (s0 : State) (D : va_G) (cB cI cJ cD : ClassId) (n : Nat) (x0 : vDes) (x2 : Int32) (x4 : Int32) (x5 : Int64) (x7 : Int64) (x9 : Int64) (x11 : Int64) (x14 : Int32) (x15 : Int32) (x16 : Int32) (t0 : Int32) (a0 : Nat) {x : (Int64 × Int32 × Int32 × Int32 × Int32) ⊕ (Int64)} {hi hm : zHp} {nx : Nat} {Q : Option Value → zHp → zHp → Nat → Prop} (ho0 : iDes cI hi a0 x0) (h : k_tellSteady_70 n x0 x2 x4 x5 x7 x9 x11 x14 x15 x16 t0 = some x) (hL45 : ∀ s : Int64 × Int32 × Int32 × Int32 × Int32, x = (.inl s) → zV s0 D (zty cB cI cJ cD) yX0_tellSteady cX0_tellSteady 17 (some .long) 5 109 0 0 45 [(0, .ref a0), (2, .int x2), (4, .int x4), (5, .long x5), (7, .long x7), (9, .long x9), (11, .long s.1), (13, .int s.2.1), (14, .int s.2.2.1), (15, .int s.2.2.2.1), (16, .int s.2.2.2.2)] [] hi hm nx Q) (hQ : ∀ r : Int64, x = (.inr r) → Q (some (.long r)) hi hm nx) : zV s0 D (zty cB cI cJ cD) yX0_tellSteady cX0_tellSteady 17 (some .long) 5 109 0 0 70 [(0, .ref a0), (2, .int x2), (4, .int x4), (5, .long x5), (7, .long x7), (9, .long x9), (11, .long x11), (14, .int x14), (15, .int x15), (16, .int x16)] [.int t0] hi hm nx Q := by
  unfold k_tellSteady_70 at h
  refine zV_blk (pc' := 76) (lo' := [(13, .int t0), (0, .ref a0), (2, .int x2), (4, .int x4), (5, .long x5), (7, .long x7), (9, .long x9), (11, .long x11), (14, .int x14), (15, .int x15), (16, .int x16)]) (st' := [.int x14, .int t0]) [.istore 13, .iload 13, .iload 14] (by decide +kernel) rfl ?_
  refine zV_icmp_le (tgt := 92) (off := 16) (by decide +kernel) (by decide) (fun q => ?_) (fun q => ?_)
  · replace h := zif_pos q h
    clear q
    refine zV_pick (lo2 := [(0, .ref a0), (2, .int x2), (4, .int x4), (5, .long x5), (7, .long x7), (9, .long x9), (11, .long x11), (13, .int t0), (14, .int x14), (15, .int x15), (16, .int x16)]) [1, 2, 3, 4, 5, 6, 7, 0, 8, 9, 10] rfl ?_
    exact ck_tellSteady_92 s0 D cB cI cJ cD n x0 x2 x4 x5 x7 x9 x11 t0 x14 x15 x16  a0 ho0 h hL45 hQ
  · replace h := zif_neg q h
    clear q
    refine zV_blk (pc' := 92) (lo' := [(15, .int ((x16 - t0) + 1)), (14, .int t0), (13, .int t0), (0, .ref a0), (2, .int x2), (4, .int x4), (5, .long x5), (7, .long x7), (9, .long x9), (11, .long x11), (16, .int x16)]) (st' := []) [.iload 13, .istore 14, .iload 16, .iload 13, .isub, .iconst 1, .iadd, .istore 15] (by decide +kernel) rfl ?_
    refine zV_pick (lo2 := [(0, .ref a0), (2, .int x2), (4, .int x4), (5, .long x5), (7, .long x7), (9, .long x9), (11, .long x11), (13, .int t0), (14, .int t0), (15, .int ((x16 - t0) + 1)), (16, .int x16)]) [3, 4, 5, 6, 7, 8, 9, 2, 1, 0, 10] rfl ?_
    exact ck_tellSteady_92 s0 D cB cI cJ cD n x0 x2 x4 x5 x7 x9 x11 t0 t0 ((x16 - t0) + 1) x16  a0 ho0 h hL45 hQ
def k_tellSteady_45 (n : Nat) (x0 : vDes) (x2 : Int32) (x4 : Int32) (x5 : Int64) (x7 : Int64) (x9 : Int64) (s : Int64 × Int32 × Int32 × Int32 × Int32) : Option ((Int64 × Int32 × Int32 × Int32 × Int32) ⊕ (Int64)) := (if (x2 : Int32) < (s.2.2.2.2 : Int32) then (if (x4 : Int32) = (0 : Int32) then some (.inr (s.2.2.1 : Int32).toInt64) else some (.inr (s.2.2.2.1 : Int32).toInt64)) else (j_abs s.1).bind (fun v1 => (if (x9 : Int64) < (v1 : Int64) then (k_tellSteady_70 n x0 x2 x4 x5 x7 x9 s.1 s.2.2.1 s.2.2.2.1 s.2.2.2.2 0) else (k_tellSteady_70 n x0 x2 x4 x5 x7 x9 s.1 s.2.2.1 s.2.2.2.1 s.2.2.2.2 (s.2.1 + 1)))))
set_option maxHeartbeats 4000000 in
set_option maxRecDepth 100000 in
theorem ck_tellSteady_45 (s0 : State) (D : va_G) (cB cI cJ cD : ClassId) (n : Nat) (x0 : vDes) (x2 : Int32) (x4 : Int32) (x5 : Int64) (x7 : Int64) (x9 : Int64) (a0 : Nat) (s : Int64 × Int32 × Int32 × Int32 × Int32) {x : (Int64 × Int32 × Int32 × Int32 × Int32) ⊕ (Int64)} {hi hm : zHp} {nx : Nat} {Q : Option Value → zHp → zHp → Nat → Prop} (ho0 : iDes cI hi a0 x0) (h : k_tellSteady_45 n x0 x2 x4 x5 x7 x9 s = some x) (hL45 : ∀ s : Int64 × Int32 × Int32 × Int32 × Int32, x = (.inl s) → zV s0 D (zty cB cI cJ cD) yX0_tellSteady cX0_tellSteady 17 (some .long) 5 109 0 0 45 [(0, .ref a0), (2, .int x2), (4, .int x4), (5, .long x5), (7, .long x7), (9, .long x9), (11, .long s.1), (13, .int s.2.1), (14, .int s.2.2.1), (15, .int s.2.2.2.1), (16, .int s.2.2.2.2)] [] hi hm nx Q) (hQ : ∀ r : Int64, x = (.inr r) → Q (some (.long r)) hi hm nx) : zV s0 D (zty cB cI cJ cD) yX0_tellSteady cX0_tellSteady 17 (some .long) 5 109 0 0 45 [(0, .ref a0), (2, .int x2), (4, .int x4), (5, .long x5), (7, .long x7), (9, .long x9), (11, .long s.1), (13, .int s.2.1), (14, .int s.2.2.1), (15, .int s.2.2.2.1), (16, .int s.2.2.2.2)] [] hi hm nx Q := by
  unfold k_tellSteady_45 at h
  refine zV_blk (pc' := 48) (lo' := [(0, .ref a0), (2, .int x2), (4, .int x4), (5, .long x5), (7, .long x7), (9, .long x9), (11, .long s.1), (13, .int s.2.1), (14, .int s.2.2.1), (15, .int s.2.2.2.1), (16, .int s.2.2.2.2)]) (st' := [.int x2, .int s.2.2.2.2]) [.iload 16, .iload_n 2] (by decide +kernel) rfl ?_
  refine zV_icmp_gt (tgt := 122) (off := 74) (by decide +kernel) (by decide) (fun q => ?_) (fun q => ?_)
  · replace h := zif_pos q h
    clear q
    refine zV_blk (pc' := 124) (lo' := [(0, .ref a0), (2, .int x2), (4, .int x4), (5, .long x5), (7, .long x7), (9, .long x9), (11, .long s.1), (13, .int s.2.1), (14, .int s.2.2.1), (15, .int s.2.2.2.1), (16, .int s.2.2.2.2)]) (st' := [.int x4]) [.iload 4] (by decide +kernel) rfl ?_
    refine zV_if_ne (tgt := 133) (off := 9) (by decide +kernel) (by decide) (fun q => ?_) (fun q => ?_)
    · replace h := zif_neg q h
      clear q
      refine zV_blk (pc' := 136) (lo' := [(0, .ref a0), (2, .int x2), (4, .int x4), (5, .long x5), (7, .long x7), (9, .long x9), (11, .long s.1), (13, .int s.2.1), (14, .int s.2.2.1), (15, .int s.2.2.2.1), (16, .int s.2.2.2.2)]) (st' := [.long (s.2.2.2.1 : Int32).toInt64]) [.iload 15, .i2l] (by decide +kernel) rfl ?_
      obtain rfl := Option.some.inj h
      exact zV_lret rfl (by decide +kernel) (hQ _ rfl)
    · replace h := zif_pos q h
      clear q
      refine zV_blk (pc' := 130) (lo' := [(0, .ref a0), (2, .int x2), (4, .int x4), (5, .long x5), (7, .long x7), (9, .long x9), (11, .long s.1), (13, .int s.2.1), (14, .int s.2.2.1), (15, .int s.2.2.2.1), (16, .int s.2.2.2.2)]) (st' := [.long (s.2.2.1 : Int32).toInt64]) [.iload 14, .i2l] (by decide +kernel) rfl ?_
      refine zV_goto (tgt := 136) (off := 6) (by decide +kernel) (by decide) ?_
      obtain rfl := Option.some.inj h
      exact zV_lret rfl (by decide +kernel) (hQ _ rfl)
  · replace h := zif_neg q h
    clear q
    refine zV_blk (pc' := 53) (lo' := [(0, .ref a0), (2, .int x2), (4, .int x4), (5, .long x5), (7, .long x7), (9, .long x9), (11, .long s.1), (13, .int s.2.1), (14, .int s.2.2.1), (15, .int s.2.2.2.1), (16, .int s.2.2.2.2)]) (st' := [.long s.1]) [.lload 11] (by decide +kernel) rfl ?_
    obtain ⟨v1, hv1, h⟩ := zbind h
    refine zV_roS (idx := 138) (rest := []) (fun Q2 hQ2 => cj_abs s0 D cB cI cJ cD s.1  v1 hv1  hQ2) oJ9_abs_067f4 (zT_mem 1161 (by decide +kernel) rfl) (zT_mem 693 (by decide +kernel) rfl) rfl rfl (Nat.le_of_ble_eq_true rfl) ⟨by decide, by decide⟩ (by decide +kernel) ?_
    refine zV_eq (st2 := [.long v1]) rfl rfl rfl rfl ?_
    refine zV_blk (pc' := 59) (lo' := [(0, .ref a0), (2, .int x2), (4, .int x4), (5, .long x5), (7, .long x7), (9, .long x9), (11, .long s.1), (13, .int s.2.1), (14, .int s.2.2.1), (15, .int s.2.2.2.1), (16, .int s.2.2.2.2)]) (st' := [.int (lg_cmp v1 x9)]) [.lload 9, .lcmp] (by decide +kernel) rfl ?_
    refine zV_lcmp_gt (tgt := 69) (off := 10) (by decide +kernel) (by decide) (fun q => ?_) (fun q => ?_)
    · replace h := zif_pos q h
      clear q
      refine zV_blk (pc' := 70) (lo' := [(0, .ref a0), (2, .int x2), (4, .int x4), (5, .long x5), (7, .long x7), (9, .long x9), (11, .long s.1), (13, .int s.2.1), (14, .int s.2.2.1), (15, .int s.2.2.2.1), (16, .int s.2.2.2.2)]) (st' := [.int 0]) [.iconst 0] (by decide +kernel) rfl ?_
      refine zV_pick (lo2 := [(0, .ref a0), (2, .int x2), (4, .int x4), (5, .long x5), (7, .long x7), (9, .long x9), (11, .long s.1), (14, .int s.2.2.1), (15, .int s.2.2.2.1), (16, .int s.2.2.2.2)]) [0, 1, 2, 3, 4, 5, 6, 8, 9, 10] rfl ?_
      exact ck_tellSteady_70 s0 D cB cI cJ cD n x0 x2 x4 x5 x7 x9 s.1 s.2.2.1 s.2.2.2.1 s.2.2.2.2 0 a0 ho0 h hL45 hQ
    · replace h := zif_neg q h
      clear q
      refine zV_blk (pc' := 66) (lo' := [(0, .ref a0), (2, .int x2), (4, .int x4), (5, .long x5), (7, .long x7), (9, .long x9), (11, .long s.1), (13, .int s.2.1), (14, .int s.2.2.1), (15, .int s.2.2.2.1), (16, .int s.2.2.2.2)]) (st' := [.int (s.2.1 + 1)]) [.iload 13, .iconst 1, .iadd] (by decide +kernel) rfl ?_
      refine zV_goto (tgt := 70) (off := 4) (by decide +kernel) (by decide) ?_
      refine zV_pick (lo2 := [(0, .ref a0), (2, .int x2), (4, .int x4), (5, .long x5), (7, .long x7), (9, .long x9), (11, .long s.1), (14, .int s.2.2.1), (15, .int s.2.2.2.1), (16, .int s.2.2.2.2)]) [0, 1, 2, 3, 4, 5, 6, 8, 9, 10] rfl ?_
      exact ck_tellSteady_70 s0 D cB cI cJ cD n x0 x2 x4 x5 x7 x9 s.1 s.2.2.1 s.2.2.2.1 s.2.2.2.2 (s.2.1 + 1) a0 ho0 h hL45 hQ
theorem ck_tellSteady_45L (s0 : State) (D : va_G) (cB cI cJ cD : ClassId) (n : Nat) (x0 : vDes) (x2 : Int32) (x4 : Int32) (x5 : Int64) (x7 : Int64) (x9 : Int64) (a0 : Nat) : ∀ (k : Nat) (s : Int64 × Int32 × Int32 × Int32 × Int32) {hi hm : zHp} {nx : Nat} {Q : Option Value → zHp → zHp → Nat → Prop} (ho0 : iDes cI hi a0 x0) {x : Int64} (_ : zloop (k_tellSteady_45 n x0 x2 x4 x5 x7 x9) k s = some x) (hQ : ∀ r : Int64, x = r → Q (some (.long r)) hi hm nx), zV s0 D (zty cB cI cJ cD) yX0_tellSteady cX0_tellSteady 17 (some .long) 5 109 0 0 45 [(0, .ref a0), (2, .int x2), (4, .int x4), (5, .long x5), (7, .long x7), (9, .long x9), (11, .long s.1), (13, .int s.2.1), (14, .int s.2.2.1), (15, .int s.2.2.2.1), (16, .int s.2.2.2.2)] [] hi hm nx Q
  | 0, s, _, _, _, _, _, _, h, _ => by cases h
  | k + 1, s, hi, hm, nx, Q, ho0, x, h, hQ => by
    obtain ⟨z, hz, h1, h2⟩ := zloop_succ h
    exact ck_tellSteady_45 s0 D cB cI cJ cD n x0 x2 x4 x5 x7 x9 a0 s ho0 hz (fun s' hs => ck_tellSteady_45L s0 D cB cI cJ cD n x0 x2 x4 x5 x7 x9 a0 k s' ho0 (h1 s' hs) hQ) (fun r hr => hQ r (h2 _ hr).symm)
def k_tellSteady (n : Nat) (x0 : vDes) (x1 : Int32) (x2 : Int32) (x3 : Int32) (x4 : Int32) : Option (Int64) := (k_driftStep x0 0).bind (fun v1 => (k_driftStep x0 1).bind (fun v9 => (k_unitsOfDay x0.2.2).bind (fun v10 => (k_driftUnits n x0 x1).bind (fun v11 => (zloop (k_tellSteady_45 n x0 x2 x4 v1 v9 ((x3 : Int32).toInt64 * v10)) n (v11, 0, 0, (-1), x1))))))
theorem oX0_tellSteady : zO yX0_tellSteady cX0_tellSteady 17 (some .long) 4 := ⟨zT_mem 1210 (by decide +kernel) rfl, zT_mem 105 (by decide +kernel) rfl, by decide +kernel, by decide +kernel, by decide +kernel⟩
set_option maxHeartbeats 4000000 in
set_option maxRecDepth 100000 in
theorem ck_tellSteady (s0 : State) (D : va_G) (cB cI cJ cD : ClassId) (n : Nat) (x0 : vDes) (x1 : Int32) (x2 : Int32) (x3 : Int32) (x4 : Int32) (a0 : Nat) (x : Int64) (h : k_tellSteady n x0 x1 x2 x3 x4 = some x) {hi hm : zHp} {nx : Nat} {Q : Option Value → zHp → zHp → Nat → Prop} (ho0 : iDes cI hi a0 x0) (hQ0 : Q (some (.long x)) hi hm nx) : zM s0 D (zty cB cI cJ cD) yX0_tellSteady cX0_tellSteady 17 (some .long) 5 109 0 0 [.ref a0, .int x1, .int x2, .int x3, .int x4] hi hm nx Q := by
  have hQ : ∀ r : Int64, x = r → Q (some (.long r)) hi hm nx := fun r hr => by subst hr; exact hQ0
  clear hQ0
  refine zM_of (by decide +kernel) (Nat.le_of_ble_eq_true rfl) ?_
  unfold k_tellSteady at h
  refine zV_eq (lo2 := [(0, .ref a0), (1, .int x1), (2, .int x2), (3, .int x3), (4, .int x4)]) rfl rfl rfl rfl ?_
  refine zV_blk (pc' := 2) (lo' := [(0, .ref a0), (1, .int x1), (2, .int x2), (3, .int x3), (4, .int x4)]) (st' := [.int 0, .ref a0]) [.aload_n 0, .iconst 0] (by decide +kernel) rfl ?_
  obtain ⟨v1, hv1, h⟩ := zbind h
  obtain ⟨b2, b3, b4, hc5, hc6, hc7, hc8⟩ := ho0
  refine zV_roV (idx := 134) (rest := []) (fs := [.ref b2, .ref b3, .ref b4]) (ci := 0) (fun Q2 hQ2 => ck_driftStep s0 D cB cI cJ cD x0 0 a0 v1 hv1 ⟨b2, b3, b4, hc5, hc6, hc7, hc8⟩ hQ2) oX0_driftStep (Or.inl hc5) rfl (zT_mem 1149 (by decide +kernel) rfl) (zT_mem 1150 (by decide +kernel) rfl) (zT_mem 1151 (by decide +kernel) rfl) rfl rfl (Nat.le_of_ble_eq_true rfl) ⟨by decide, by decide⟩ (by decide +kernel) ?_
  refine zV_eq (st2 := [.long v1]) rfl rfl rfl rfl ?_
  refine zV_blk (pc' := 9) (lo' := [(5, .long v1), (0, .ref a0), (1, .int x1), (2, .int x2), (3, .int x3), (4, .int x4)]) (st' := [.int 1, .ref a0]) [.lstore 5, .aload_n 0, .iconst 1] (by decide +kernel) rfl ?_
  obtain ⟨v9, hv9, h⟩ := zbind h
  refine zV_roV (idx := 134) (rest := []) (fs := [.ref b2, .ref b3, .ref b4]) (ci := 0) (fun Q2 hQ2 => ck_driftStep s0 D cB cI cJ cD x0 1 a0 v9 hv9 ⟨b2, b3, b4, hc5, hc6, hc7, hc8⟩ hQ2) oX0_driftStep (Or.inl hc5) rfl (zT_mem 1149 (by decide +kernel) rfl) (zT_mem 1150 (by decide +kernel) rfl) (zT_mem 1151 (by decide +kernel) rfl) rfl rfl (Nat.le_of_ble_eq_true rfl) ⟨by decide, by decide⟩ (by decide +kernel) ?_
  refine zV_eq (st2 := [.long v9]) rfl rfl rfl rfl ?_
  refine zV_blk (pc' := 17) (lo' := [(7, .long v9), (5, .long v1), (0, .ref a0), (1, .int x1), (2, .int x2), (3, .int x3), (4, .int x4)]) (st' := [.ref a0, .long (x3 : Int32).toInt64]) [.lstore 7, .iload_n 3, .i2l, .aload_n 0] (by decide +kernel) rfl ?_
  refine zV_get (ci := 0) (idx := 19) (k := 2) (N := 3) (fs := [.ref b2, .ref b3, .ref b4]) (v := .ref b4) (Or.inl hc5) rfl z_in0 (by decide) (zT_mem 567 (by decide +kernel) rfl) rfl (by decide +kernel) ?_
  obtain ⟨v10, hv10, h⟩ := zbind h
  refine zV_roV (idx := 118) (rest := [.long (x3 : Int32).toInt64]) (fs := [.int x0.2.2.1, .int x0.2.2.2.1, .int x0.2.2.2.2.1, .int x0.2.2.2.2.2.1, .int x0.2.2.2.2.2.2]) (ci := 10) (fun Q2 hQ2 => ck_unitsOfDay s0 D cB cI cJ cD x0.2.2 b4 v10 hv10 hc8 hQ2) oX10_unitsOfDay (Or.inl hc8) rfl (zT_mem 1126 (by decide +kernel) rfl) (zT_mem 1127 (by decide +kernel) rfl) (zT_mem 1128 (by decide +kernel) rfl) rfl rfl (Nat.le_of_ble_eq_true rfl) ⟨by decide, by decide⟩ (by decide +kernel) ?_
  refine zV_eq (st2 := [.long v10, .long (x3 : Int32).toInt64]) rfl rfl rfl rfl ?_
  refine zV_blk (pc' := 28) (lo' := [(9, .long ((x3 : Int32).toInt64 * v10)), (7, .long v9), (5, .long v1), (0, .ref a0), (1, .int x1), (2, .int x2), (3, .int x3), (4, .int x4)]) (st' := [.int x1, .ref a0]) [.lmul, .lstore 9, .aload_n 0, .iload_n 1] (by decide +kernel) rfl ?_
  obtain ⟨v11, hv11, h⟩ := zbind h
  refine zV_roV (idx := 131) (rest := []) (fs := [.ref b2, .ref b3, .ref b4]) (ci := 0) (fun Q2 hQ2 => ck_driftUnits s0 D cB cI cJ cD n x0 x1 a0 v11 hv11 ⟨b2, b3, b4, hc5, hc6, hc7, hc8⟩ hQ2) oX0_driftUnits (Or.inl hc5) rfl (zT_mem 1118 (by decide +kernel) rfl) (zT_mem 1119 (by decide +kernel) rfl) (zT_mem 1120 (by decide +kernel) rfl) rfl rfl (Nat.le_of_ble_eq_true rfl) ⟨by decide, by decide⟩ (by decide +kernel) ?_
  refine zV_eq (st2 := [.long v11]) rfl rfl rfl rfl ?_
  refine zV_blk (pc' := 45) (lo' := [(16, .int x1), (15, .int (-1)), (14, .int 0), (13, .int 0), (11, .long v11), (9, .long ((x3 : Int32).toInt64 * v10)), (7, .long v9), (5, .long v1), (0, .ref a0), (1, .int x1), (2, .int x2), (3, .int x3), (4, .int x4)]) (st' := []) [.lstore 11, .iconst 0, .istore 13, .iconst 0, .istore 14, .iconst (-1), .istore 15, .iload_n 1, .istore 16] (by decide +kernel) rfl ?_
  refine zV_pick (lo2 := [(0, .ref a0), (2, .int x2), (4, .int x4), (5, .long v1), (7, .long v9), (9, .long ((x3 : Int32).toInt64 * v10)), (11, .long v11), (13, .int 0), (14, .int 0), (15, .int (-1)), (16, .int x1)]) [8, 10, 12, 7, 6, 5, 4, 3, 2, 1, 0] rfl ?_
  exact ck_tellSteady_45L s0 D cB cI cJ cD n x0 x2 x4 v1 v9 ((x3 : Int32).toInt64 * v10) a0 n (v11, 0, 0, (-1), x1) ⟨b2, b3, b4, hc5, hc6, hc7, hc8⟩ h hQ

def k_dawnOf (x0 : vDes) (x1 : Int32) : Option (Int64) := (k_unitsOfYear x0.2.2).bind (fun v8 => (k_beginUnits x0.2.2).bind (fun v9 => (k_unitsOfDay x0.2.2).bind (fun v10 => (j_fdivL (((x1 : Int32).toInt64 * v8) + v9) v10).bind (fun v11 => some v11))))
theorem oX0_dawnOf : zO yX0_dawnOf cX0_dawnOf 2 (some .long) 1 := ⟨zT_mem 1196 (by decide +kernel) rfl, zT_mem 105 (by decide +kernel) rfl, by decide +kernel, by decide +kernel, by decide +kernel⟩
set_option maxHeartbeats 4000000 in
set_option maxRecDepth 100000 in
theorem ck_dawnOf (s0 : State) (D : va_G) (cB cI cJ cD : ClassId) (x0 : vDes) (x1 : Int32) (a0 : Nat) (x : Int64) (h : k_dawnOf x0 x1 = some x) {hi hm : zHp} {nx : Nat} {Q : Option Value → zHp → zHp → Nat → Prop} (ho0 : iDes cI hi a0 x0) (hQ0 : Q (some (.long x)) hi hm nx) : zM s0 D (zty cB cI cJ cD) yX0_dawnOf cX0_dawnOf 2 (some .long) 1 25 0 0 [.ref a0, .int x1] hi hm nx Q := by
  have hQ : ∀ r : Int64, x = r → Q (some (.long r)) hi hm nx := fun r hr => by subst hr; exact hQ0
  clear hQ0
  refine zM_of (by decide +kernel) (Nat.le_of_ble_eq_true rfl) ?_
  unfold k_dawnOf at h
  refine zV_eq (lo2 := [(0, .ref a0), (1, .int x1)]) rfl rfl rfl rfl ?_
  refine zV_blk (pc' := 3) (lo' := [(0, .ref a0), (1, .int x1)]) (st' := [.ref a0, .long (x1 : Int32).toInt64]) [.iload_n 1, .i2l, .aload_n 0] (by decide +kernel) rfl ?_
  obtain ⟨b1, b2, b3, hc4, hc5, hc6, hc7⟩ := ho0
  refine zV_get (ci := 0) (idx := 19) (k := 2) (N := 3) (fs := [.ref b1, .ref b2, .ref b3]) (v := .ref b3) (Or.inl hc4) rfl z_in0 (by decide) (zT_mem 567 (by decide +kernel) rfl) rfl (by decide +kernel) ?_
  obtain ⟨v8, hv8, h⟩ := zbind h
  refine zV_roV (idx := 122) (rest := [.long (x1 : Int32).toInt64]) (fs := [.int x0.2.2.1, .int x0.2.2.2.1, .int x0.2.2.2.2.1, .int x0.2.2.2.2.2.1, .int x0.2.2.2.2.2.2]) (ci := 10) (fun Q2 hQ2 => ck_unitsOfYear s0 D cB cI cJ cD x0.2.2 b3 v8 hv8 hc7 hQ2) oX10_unitsOfYear (Or.inl hc7) rfl (zT_mem 1130 (by decide +kernel) rfl) (zT_mem 1131 (by decide +kernel) rfl) (zT_mem 1132 (by decide +kernel) rfl) rfl rfl (Nat.le_of_ble_eq_true rfl) ⟨by decide, by decide⟩ (by decide +kernel) ?_
  refine zV_eq (st2 := [.long v8, .long (x1 : Int32).toInt64]) rfl rfl rfl rfl ?_
  refine zV_blk (pc' := 11) (lo' := [(0, .ref a0), (1, .int x1)]) (st' := [.ref a0, .long ((x1 : Int32).toInt64 * v8)]) [.lmul, .aload_n 0] (by decide +kernel) rfl ?_
  refine zV_get (ci := 0) (idx := 19) (k := 2) (N := 3) (fs := [.ref b1, .ref b2, .ref b3]) (v := .ref b3) (Or.inl hc4) rfl z_in0 (by decide) (zT_mem 567 (by decide +kernel) rfl) rfl (by decide +kernel) ?_
  obtain ⟨v9, hv9, h⟩ := zbind h
  refine zV_roV (idx := 128) (rest := [.long ((x1 : Int32).toInt64 * v8)]) (fs := [.int x0.2.2.1, .int x0.2.2.2.1, .int x0.2.2.2.2.1, .int x0.2.2.2.2.2.1, .int x0.2.2.2.2.2.2]) (ci := 10) (fun Q2 hQ2 => ck_beginUnits s0 D cB cI cJ cD x0.2.2 b3 v9 hv9 hc7 hQ2) oX10_beginUnits (Or.inl hc7) rfl (zT_mem 1134 (by decide +kernel) rfl) (zT_mem 1135 (by decide +kernel) rfl) (zT_mem 1136 (by decide +kernel) rfl) rfl rfl (Nat.le_of_ble_eq_true rfl) ⟨by decide, by decide⟩ (by decide +kernel) ?_
  refine zV_eq (st2 := [.long v9, .long ((x1 : Int32).toInt64 * v8)]) rfl rfl rfl rfl ?_
  refine zV_blk (pc' := 19) (lo' := [(0, .ref a0), (1, .int x1)]) (st' := [.ref a0, .long (((x1 : Int32).toInt64 * v8) + v9)]) [.ladd, .aload_n 0] (by decide +kernel) rfl ?_
  refine zV_get (ci := 0) (idx := 19) (k := 2) (N := 3) (fs := [.ref b1, .ref b2, .ref b3]) (v := .ref b3) (Or.inl hc4) rfl z_in0 (by decide) (zT_mem 567 (by decide +kernel) rfl) rfl (by decide +kernel) ?_
  obtain ⟨v10, hv10, h⟩ := zbind h
  refine zV_roV (idx := 118) (rest := [.long (((x1 : Int32).toInt64 * v8) + v9)]) (fs := [.int x0.2.2.1, .int x0.2.2.2.1, .int x0.2.2.2.2.1, .int x0.2.2.2.2.2.1, .int x0.2.2.2.2.2.2]) (ci := 10) (fun Q2 hQ2 => ck_unitsOfDay s0 D cB cI cJ cD x0.2.2 b3 v10 hv10 hc7 hQ2) oX10_unitsOfDay (Or.inl hc7) rfl (zT_mem 1126 (by decide +kernel) rfl) (zT_mem 1127 (by decide +kernel) rfl) (zT_mem 1128 (by decide +kernel) rfl) rfl rfl (Nat.le_of_ble_eq_true rfl) ⟨by decide, by decide⟩ (by decide +kernel) ?_
  refine zV_eq (st2 := [.long v10, .long (((x1 : Int32).toInt64 * v8) + v9)]) rfl rfl rfl rfl ?_
  obtain ⟨v11, hv11, h⟩ := zbind h
  refine zV_roS (idx := 144) (rest := []) (fun Q2 hQ2 => cj_fdivL s0 D cB cI cJ cD (((x1 : Int32).toInt64 * v8) + v9) v10  v11 hv11  hQ2) oJ9_floorDiv_f86c9 (zT_mem 1197 (by decide +kernel) rfl) (zT_mem 1198 (by decide +kernel) rfl) rfl rfl (Nat.le_of_ble_eq_true rfl) ⟨by decide, by decide⟩ (by decide +kernel) ?_
  refine zV_eq (st2 := [.long v11]) rfl rfl rfl rfl ?_
  obtain rfl := Option.some.inj h
  exact zV_lret rfl (by decide +kernel) (hQ _ rfl)

def k_tellDawns_167 (n : Nat) (x0 : vDes) (x2 : Int32) (x3 : Int32) (x4 : Int32) (x5 : Int64) (x7 : Int32) (x8 : Int32) (x9 : Int32) (x11 : Int32) (t0 : Int32) (t1 : Int32) : Option ((Int32 × Int64 × Int32 × Int32 × Int32 × Int32 × Int32) ⊕ (Int32)) := some (.inl (x4, x5, x7, x8, x9, (t0 + t1), (x11 + 1)))
set_option maxHeartbeats 4000000 in
set_option maxRecDepth 100000 in
theorem ck_tellDawns_167 (s0 : State) (D : va_G) (cB cI cJ cD : ClassId) (n : Nat) (x0 : vDes) (x2 : Int32) (x3 : Int32) (x4 : Int32) (x5 : Int64) (x7 : Int32) (x8 : Int32) (x9 : Int32) (x11 : Int32) (t0 : Int32) (t1 : Int32) (a0 : Nat) {x : (Int32 × Int64 × Int32 × Int32 × Int32 × Int32 × Int32) ⊕ (Int32)} {hi hm : zHp} {nx : Nat} {Q : Option Value → zHp → zHp → Nat → Prop} (ho0 : iDes cI hi a0 x0) (h : k_tellDawns_167 n x0 x2 x3 x4 x5 x7 x8 x9 x11 t0 t1 = some x) (hL72 : ∀ s : Int32 × Int64 × Int32 × Int32 × Int32 × Int32 × Int32, x = (.inl s) → zV s0 D (zty cB cI cJ cD) yX0_tellDawns cX0_tellDawns 15 (some .int) 4 91 0 0 72 [(0, .ref a0), (2, .int x2), (3, .int x3), (4, .int s.1), (5, .long s.2.1), (7, .int s.2.2.1), (8, .int s.2.2.2.1), (9, .int s.2.2.2.2.1), (10, .int s.2.2.2.2.2.1), (11, .int s.2.2.2.2.2.2)] [] hi hm nx Q) (hQ : ∀ r : Int32, x = (.inr r) → Q (some (.int r)) hi hm nx) : zV s0 D (zty cB cI cJ cD) yX0_tellDawns cX0_tellDawns 15 (some .int) 4 91 0 0 167 [(0, .ref a0), (2, .int x2), (3, .int x3), (4, .int x4), (5, .long x5), (7, .int x7), (8, .int x8), (9, .int x9), (11, .int x11)] [.int t1, .int t0] hi hm nx Q := by
  unfold k_tellDawns_167 at h
  refine zV_blk (pc' := 173) (lo' := [(11, .int (x11 + 1)), (10, .int (t0 + t1)), (0, .ref a0), (2, .int x2), (3, .int x3), (4, .int x4), (5, .long x5), (7, .int x7), (8, .int x8), (9, .int x9)]) (st' := []) [.iadd, .istore 10, .iinc 11 1] (by decide +kernel) rfl ?_
  refine zV_goto (tgt := 72) (off := -101) (by decide +kernel) (by decide) ?_
  obtain rfl := Option.some.inj h
  refine zV_pick (lo2 := [(0, .ref a0), (2, .int x2), (3, .int x3), (4, .int x4), (5, .long x5), (7, .int x7), (8, .int x8), (9, .int x9), (10, .int (t0 + t1)), (11, .int (x11 + 1))]) [2, 3, 4, 5, 6, 7, 8, 9, 1, 0] rfl ?_
  exact hL72 _ rfl
def k_tellDawns_127 (n : Nat) (x0 : vDes) (x2 : Int32) (x3 : Int32) (x4 : Int32) (x5 : Int64) (x7 : Int32) (x8 : Int32) (x9 : Int32) (x10 : Int32) (x11 : Int32) (x12 : Int64) : Option ((Int32 × Int64 × Int32 × Int32 × Int32 × Int32 × Int32) ⊕ (Int32)) := (j_minI x8 ((x12 - x5) : Int64).toInt32).bind (fun v1 => (j_maxI x9 ((x12 - x5) : Int64).toInt32).bind (fun v2 => (if (x4 : Int32) = (x11 : Int32) then (k_tellDawns_167 n x0 x2 x3 x4 x5 x7 v1 v2 x11 x10 0) else (k_tellDawns_167 n x0 x2 x3 x4 x5 x7 v1 v2 x11 x10 1))))
set_option maxHeartbeats 4000000 in
set_option maxRecDepth 100000 in
theorem ck_tellDawns_127 (s0 : State) (D : va_G) (cB cI cJ cD : ClassId) (n : Nat) (x0 : vDes) (x2 : Int32) (x3 : Int32) (x4 : Int32) (x5 : Int64) (x7 : Int32) (x8 : Int32) (x9 : Int32) (x10 : Int32) (x11 : Int32) (x12 : Int64) (a0 : Nat) {x : (Int32 × Int64 × Int32 × Int32 × Int32 × Int32 × Int32) ⊕ (Int32)} {hi hm : zHp} {nx : Nat} {Q : Option Value → zHp → zHp → Nat → Prop} (ho0 : iDes cI hi a0 x0) (h : k_tellDawns_127 n x0 x2 x3 x4 x5 x7 x8 x9 x10 x11 x12 = some x) (hL72 : ∀ s : Int32 × Int64 × Int32 × Int32 × Int32 × Int32 × Int32, x = (.inl s) → zV s0 D (zty cB cI cJ cD) yX0_tellDawns cX0_tellDawns 15 (some .int) 4 91 0 0 72 [(0, .ref a0), (2, .int x2), (3, .int x3), (4, .int s.1), (5, .long s.2.1), (7, .int s.2.2.1), (8, .int s.2.2.2.1), (9, .int s.2.2.2.2.1), (10, .int s.2.2.2.2.2.1), (11, .int s.2.2.2.2.2.2)] [] hi hm nx Q) (hQ : ∀ r : Int32, x = (.inr r) → Q (some (.int r)) hi hm nx) : zV s0 D (zty cB cI cJ cD) yX0_tellDawns cX0_tellDawns 15 (some .int) 4 91 0 0 127 [(0, .ref a0), (2, .int x2), (3, .int x3), (4, .int x4), (5, .long x5), (7, .int x7), (8, .int x8), (9, .int x9), (10, .int x10), (11, .int x11), (12, .long x12)] [] hi hm nx Q := by
  unfold k_tellDawns_127 at h
  refine zV_blk (pc' := 139) (lo' := [(14, .int ((x12 - x5) : Int64).toInt32), (0, .ref a0), (2, .int x2), (3, .int x3), (4, .int x4), (5, .long x5), (7, .int x7), (8, .int x8), (9, .int x9), (10, .int x10), (11, .int x11), (12, .long x12)]) (st' := [.int ((x12 - x5) : Int64).toInt32, .int x8]) [.lload 12, .lload 5, .lsub, .l2i, .istore 14, .iload 8, .iload 14] (by decide +kernel) rfl ?_
  obtain ⟨v1, hv1, h⟩ := zbind h
  refine zV_roS (idx := 154) (rest := []) (fun Q2 hQ2 => cj_minI s0 D cB cI cJ cD x8 ((x12 - x5) : Int64).toInt32  v1 hv1  hQ2) oJ9_min_7cf53 (zT_mem 1201 (by decide +kernel) rfl) (zT_mem 225 (by decide +kernel) rfl) rfl rfl (Nat.le_of_ble_eq_true rfl) ⟨by decide, by decide⟩ (by decide +kernel) ?_
  refine zV_eq (st2 := [.int v1]) rfl rfl rfl rfl ?_
  refine zV_blk (pc' := 148) (lo' := [(8, .int v1), (14, .int ((x12 - x5) : Int64).toInt32), (0, .ref a0), (2, .int x2), (3, .int x3), (4, .int x4), (5, .long x5), (7, .int x7), (9, .int x9), (10, .int x10), (11, .int x11), (12, .long x12)]) (st' := [.int ((x12 - x5) : Int64).toInt32, .int x9]) [.istore 8, .iload 9, .iload 14] (by decide +kernel) rfl ?_
  obtain ⟨v2, hv2, h⟩ := zbind h
  refine zV_roS (idx := 158) (rest := []) (fun Q2 hQ2 => cj_maxI s0 D cB cI cJ cD x9 ((x12 - x5) : Int64).toInt32  v2 hv2  hQ2) oJ9_max_7cf53 (zT_mem 1202 (by decide +kernel) rfl) (zT_mem 275 (by decide +kernel) rfl) rfl rfl (Nat.le_of_ble_eq_true rfl) ⟨by decide, by decide⟩ (by decide +kernel) ?_
  refine zV_eq (st2 := [.int v2]) rfl rfl rfl rfl ?_
  refine zV_blk (pc' := 159) (lo' := [(9, .int v2), (8, .int v1), (14, .int ((x12 - x5) : Int64).toInt32), (0, .ref a0), (2, .int x2), (3, .int x3), (4, .int x4), (5, .long x5), (7, .int x7), (10, .int x10), (11, .int x11), (12, .long x12)]) (st' := [.int x11, .int x4, .int x10]) [.istore 9, .iload 10, .iload 4, .iload 11] (by decide +kernel) rfl ?_
  refine zV_icmp_ne (tgt := 166) (off := 7) (by decide +kernel) (by decide) (fun q => ?_) (fun q => ?_)
  · replace h := zif_neg q h
    clear q
    refine zV_blk (pc' := 167) (lo' := [(9, .int v2), (8, .int v1), (14, .int ((x12 - x5) : Int64).toInt32), (0, .ref a0), (2, .int x2), (3, .int x3), (4, .int x4), (5, .long x5), (7, .int x7), (10, .int x10), (11, .int x11), (12, .long x12)]) (st' := [.int 1, .int x10]) [.iconst 1] (by decide +kernel) rfl ?_
    refine zV_pick (lo2 := [(0, .ref a0), (2, .int x2), (3, .int x3), (4, .int x4), (5, .long x5), (7, .int x7), (8, .int v1), (9, .int v2), (11, .int x11)]) [3, 4, 5, 6, 7, 8, 1, 0, 10] rfl ?_
    exact ck_tellDawns_167 s0 D cB cI cJ cD n x0 x2 x3 x4 x5 x7 v1 v2 x11 x10 1 a0 ho0 h hL72 hQ
  · replace h := zif_pos q h
    clear q
    refine zV_blk (pc' := 163) (lo' := [(9, .int v2), (8, .int v1), (14, .int ((x12 - x5) : Int64).toInt32), (0, .ref a0), (2, .int x2), (3, .int x3), (4, .int x4), (5, .long x5), (7, .int x7), (10, .int x10), (11, .int x11), (12, .long x12)]) (st' := [.int 0, .int x10]) [.iconst 0] (by decide +kernel) rfl ?_
    refine zV_goto (tgt := 167) (off := 4) (by decide +kernel) (by decide) ?_
    refine zV_pick (lo2 := [(0, .ref a0), (2, .int x2), (3, .int x3), (4, .int x4), (5, .long x5), (7, .int x7), (8, .int v1), (9, .int v2), (11, .int x11)]) [3, 4, 5, 6, 7, 8, 1, 0, 10] rfl ?_
    exact ck_tellDawns_167 s0 D cB cI cJ cD n x0 x2 x3 x4 x5 x7 v1 v2 x11 x10 0 a0 ho0 h hL72 hQ
def k_tellDawns_86 (n : Nat) (x0 : vDes) (x2 : Int32) (x3 : Int32) (x8 : Int32) (x9 : Int32) (x10 : Int32) (x11 : Int32) (x12 : Int64) (s : Int32 × Int64 × Int32) : Option ((Int32 × Int64 × Int32) ⊕ ((Int32 × Int64 × Int32 × Int32 × Int32 × Int32 × Int32) ⊕ (Int32))) := (if (100000 : Int32) ≤ (s.1 : Int32) then ((k_tellDawns_127 n x0 x2 x3 s.1 s.2.1 s.2.2 x8 x9 x10 x11 x12 ).map (fun z => .inr z)) else (if ((x12 - s.2.1) : Int64) < ((s.2.2 : Int32).toInt64 : Int64) then ((k_tellDawns_127 n x0 x2 x3 s.1 s.2.1 s.2.2 x8 x9 x10 x11 x12 ).map (fun z => .inr z)) else (k_daysOf n x0 (s.1 + 1)).bind (fun v3 => some (.inl ((s.1 + 1), (s.2.1 + (s.2.2 : Int32).toInt64), v3)))))
set_option maxHeartbeats 4000000 in
set_option maxRecDepth 100000 in
theorem ck_tellDawns_86 (s0 : State) (D : va_G) (cB cI cJ cD : ClassId) (n : Nat) (x0 : vDes) (x2 : Int32) (x3 : Int32) (x8 : Int32) (x9 : Int32) (x10 : Int32) (x11 : Int32) (x12 : Int64) (a0 : Nat) (s : Int32 × Int64 × Int32) {x : (Int32 × Int64 × Int32) ⊕ ((Int32 × Int64 × Int32 × Int32 × Int32 × Int32 × Int32) ⊕ (Int32))} {hi hm : zHp} {nx : Nat} {Q : Option Value → zHp → zHp → Nat → Prop} (ho0 : iDes cI hi a0 x0) (h : k_tellDawns_86 n x0 x2 x3 x8 x9 x10 x11 x12 s = some x) (hL86 : ∀ s : Int32 × Int64 × Int32, x = (.inl s) → zV s0 D (zty cB cI cJ cD) yX0_tellDawns cX0_tellDawns 15 (some .int) 4 91 0 0 86 [(0, .ref a0), (2, .int x2), (3, .int x3), (4, .int s.1), (5, .long s.2.1), (7, .int s.2.2), (8, .int x8), (9, .int x9), (10, .int x10), (11, .int x11), (12, .long x12)] [] hi hm nx Q) (hL72 : ∀ s : Int32 × Int64 × Int32 × Int32 × Int32 × Int32 × Int32, x = (.inr (.inl s)) → zV s0 D (zty cB cI cJ cD) yX0_tellDawns cX0_tellDawns 15 (some .int) 4 91 0 0 72 [(0, .ref a0), (2, .int x2), (3, .int x3), (4, .int s.1), (5, .long s.2.1), (7, .int s.2.2.1), (8, .int s.2.2.2.1), (9, .int s.2.2.2.2.1), (10, .int s.2.2.2.2.2.1), (11, .int s.2.2.2.2.2.2)] [] hi hm nx Q) (hQ : ∀ r : Int32, x = (.inr (.inr r)) → Q (some (.int r)) hi hm nx) : zV s0 D (zty cB cI cJ cD) yX0_tellDawns cX0_tellDawns 15 (some .int) 4 91 0 0 86 [(0, .ref a0), (2, .int x2), (3, .int x3), (4, .int s.1), (5, .long s.2.1), (7, .int s.2.2), (8, .int x8), (9, .int x9), (10, .int x10), (11, .int x11), (12, .long x12)] [] hi hm nx Q := by
  unfold k_tellDawns_86 at h
  refine zV_blk (pc' := 88) (lo' := [(0, .ref a0), (2, .int x2), (3, .int x3), (4, .int s.1), (5, .long s.2.1), (7, .int s.2.2), (8, .int x8), (9, .int x9), (10, .int x10), (11, .int x11), (12, .long x12)]) (st' := [.int s.1]) [.iload 4] (by decide +kernel) rfl ?_
  refine zV_ldc (idx := 88) (v := 100000) (zT_mem 1070 (by decide +kernel) rfl) (by decide +kernel) ?_
  refine zV_icmp_ge (tgt := 127) (off := 37) (by decide +kernel) (by decide) (fun q => ?_) (fun q => ?_)
  · replace h := zif_pos q h
    clear q
    obtain ⟨z1, h9, hx⟩ := zmap h
    clear h; subst hx; have h := h9; clear h9
    refine zV_pick (lo2 := [(0, .ref a0), (2, .int x2), (3, .int x3), (4, .int s.1), (5, .long s.2.1), (7, .int s.2.2), (8, .int x8), (9, .int x9), (10, .int x10), (11, .int x11), (12, .long x12)]) [0, 1, 2, 3, 4, 5, 6, 7, 8, 9, 10] rfl ?_
    exact ck_tellDawns_127 s0 D cB cI cJ cD n x0 x2 x3 s.1 s.2.1 s.2.2 x8 x9 x10 x11 x12  a0 ho0 h (fun s hs => hL72 s (by rw [hs])) (fun r hr => hQ r (by rw [hr]))
  · replace h := zif_neg q h
    clear q
    refine zV_blk (pc' := 102) (lo' := [(0, .ref a0), (2, .int x2), (3, .int x3), (4, .int s.1), (5, .long s.2.1), (7, .int s.2.2), (8, .int x8), (9, .int x9), (10, .int x10), (11, .int x11), (12, .long x12)]) (st' := [.int (lg_cmp (x12 - s.2.1) (s.2.2 : Int32).toInt64)]) [.lload 12, .lload 5, .lsub, .iload 7, .i2l, .lcmp] (by decide +kernel) rfl ?_
    refine zV_lcmp_lt (tgt := 127) (off := 25) (by decide +kernel) (by decide) (fun q => ?_) (fun q => ?_)
    · replace h := zif_pos q h
      clear q
      obtain ⟨z2, h9, hx⟩ := zmap h
      clear h; subst hx; have h := h9; clear h9
      refine zV_pick (lo2 := [(0, .ref a0), (2, .int x2), (3, .int x3), (4, .int s.1), (5, .long s.2.1), (7, .int s.2.2), (8, .int x8), (9, .int x9), (10, .int x10), (11, .int x11), (12, .long x12)]) [0, 1, 2, 3, 4, 5, 6, 7, 8, 9, 10] rfl ?_
      exact ck_tellDawns_127 s0 D cB cI cJ cD n x0 x2 x3 s.1 s.2.1 s.2.2 x8 x9 x10 x11 x12  a0 ho0 h (fun s hs => hL72 s (by rw [hs])) (fun r hr => hQ r (by rw [hr]))
    · replace h := zif_neg q h
      clear q
      refine zV_blk (pc' := 119) (lo' := [(4, .int (s.1 + 1)), (5, .long (s.2.1 + (s.2.2 : Int32).toInt64)), (0, .ref a0), (2, .int x2), (3, .int x3), (7, .int s.2.2), (8, .int x8), (9, .int x9), (10, .int x10), (11, .int x11), (12, .long x12)]) (st' := [.int (s.1 + 1), .ref a0]) [.lload 5, .iload 7, .i2l, .ladd, .lstore 5, .iinc 4 1, .aload_n 0, .iload 4] (by decide +kernel) rfl ?_
      obtain ⟨v3, hv3, h⟩ := zbind h
      obtain ⟨b4, b5, b6, hc7, hc8, hc9, hc10⟩ := ho0
      refine zV_roV (idx := 151) (rest := []) (fs := [.ref b4, .ref b5, .ref b6]) (ci := 0) (fun Q2 hQ2 => ck_daysOf s0 D cB cI cJ cD n x0 (s.1 + 1) a0 v3 hv3 ⟨b4, b5, b6, hc7, hc8, hc9, hc10⟩ hQ2) oX0_daysOf (Or.inl hc7) rfl (zT_mem 1200 (by decide +kernel) rfl) (zT_mem 1042 (by decide +kernel) rfl) (zT_mem 1043 (by decide +kernel) rfl) rfl rfl (Nat.le_of_ble_eq_true rfl) ⟨by decide, by decide⟩ (by decide +kernel) ?_
      refine zV_eq (st2 := [.int v3]) rfl rfl rfl rfl ?_
      refine zV_blk (pc' := 124) (lo' := [(7, .int v3), (4, .int (s.1 + 1)), (5, .long (s.2.1 + (s.2.2 : Int32).toInt64)), (0, .ref a0), (2, .int x2), (3, .int x3), (8, .int x8), (9, .int x9), (10, .int x10), (11, .int x11), (12, .long x12)]) (st' := []) [.istore 7] (by decide +kernel) rfl ?_
      refine zV_goto (tgt := 86) (off := -38) (by decide +kernel) (by decide) ?_
      obtain rfl := Option.some.inj h
      refine zV_pick (lo2 := [(0, .ref a0), (2, .int x2), (3, .int x3), (4, .int (s.1 + 1)), (5, .long (s.2.1 + (s.2.2 : Int32).toInt64)), (7, .int v3), (8, .int x8), (9, .int x9), (10, .int x10), (11, .int x11), (12, .long x12)]) [3, 4, 5, 1, 2, 0, 6, 7, 8, 9, 10] rfl ?_
      exact hL86 _ rfl
theorem ck_tellDawns_86L (s0 : State) (D : va_G) (cB cI cJ cD : ClassId) (n : Nat) (x0 : vDes) (x2 : Int32) (x3 : Int32) (x8 : Int32) (x9 : Int32) (x10 : Int32) (x11 : Int32) (x12 : Int64) (a0 : Nat) : ∀ (k : Nat) (s : Int32 × Int64 × Int32) {hi hm : zHp} {nx : Nat} {Q : Option Value → zHp → zHp → Nat → Prop} (ho0 : iDes cI hi a0 x0) {x : (Int32 × Int64 × Int32 × Int32 × Int32 × Int32 × Int32) ⊕ (Int32)} (_ : zloop (k_tellDawns_86 n x0 x2 x3 x8 x9 x10 x11 x12) k s = some x) (hL72 : ∀ s : Int32 × Int64 × Int32 × Int32 × Int32 × Int32 × Int32, x = (.inl s) → zV s0 D (zty cB cI cJ cD) yX0_tellDawns cX0_tellDawns 15 (some .int) 4 91 0 0 72 [(0, .ref a0), (2, .int x2), (3, .int x3), (4, .int s.1), (5, .long s.2.1), (7, .int s.2.2.1), (8, .int s.2.2.2.1), (9, .int s.2.2.2.2.1), (10, .int s.2.2.2.2.2.1), (11, .int s.2.2.2.2.2.2)] [] hi hm nx Q) (hQ : ∀ r : Int32, x = (.inr r) → Q (some (.int r)) hi hm nx), zV s0 D (zty cB cI cJ cD) yX0_tellDawns cX0_tellDawns 15 (some .int) 4 91 0 0 86 [(0, .ref a0), (2, .int x2), (3, .int x3), (4, .int s.1), (5, .long s.2.1), (7, .int s.2.2), (8, .int x8), (9, .int x9), (10, .int x10), (11, .int x11), (12, .long x12)] [] hi hm nx Q
  | 0, s, _, _, _, _, _, _, h, _, _ => by cases h
  | k + 1, s, hi, hm, nx, Q, ho0, x, h, hL72, hQ => by
    obtain ⟨z, hz, h1, h2⟩ := zloop_succ h
    exact ck_tellDawns_86 s0 D cB cI cJ cD n x0 x2 x3 x8 x9 x10 x11 x12 a0 s ho0 hz (fun s' hs => ck_tellDawns_86L s0 D cB cI cJ cD n x0 x2 x3 x8 x9 x10 x11 x12 a0 k s' ho0 (h1 s' hs) hL72 hQ) (fun s' hs => hL72 s' (h2 _ hs).symm) (fun r hr => hQ r (h2 _ hr).symm)
def k_tellDawns_72 (n : Nat) (x0 : vDes) (x2 : Int32) (x3 : Int32) (s : Int32 × Int64 × Int32 × Int32 × Int32 × Int32 × Int32) : Option ((Int32 × Int64 × Int32 × Int32 × Int32 × Int32 × Int32) ⊕ (Int32)) := (if (x2 : Int32) < (s.2.2.2.2.2.2 : Int32) then (if (x3 : Int32) = (0 : Int32) then some (.inr s.2.2.2.1) else (if (x3 : Int32) = (1 : Int32) then some (.inr s.2.2.2.2.1) else some (.inr s.2.2.2.2.2.1))) else (k_dawnOf x0 s.2.2.2.2.2.2).bind (fun v1 => (zloop (k_tellDawns_86 n x0 x2 x3 s.2.2.2.1 s.2.2.2.2.1 s.2.2.2.2.2.1 s.2.2.2.2.2.2 v1) n (s.1, s.2.1, s.2.2.1))))
set_option maxHeartbeats 4000000 in
set_option maxRecDepth 100000 in
theorem ck_tellDawns_72 (s0 : State) (D : va_G) (cB cI cJ cD : ClassId) (n : Nat) (x0 : vDes) (x2 : Int32) (x3 : Int32) (a0 : Nat) (s : Int32 × Int64 × Int32 × Int32 × Int32 × Int32 × Int32) {x : (Int32 × Int64 × Int32 × Int32 × Int32 × Int32 × Int32) ⊕ (Int32)} {hi hm : zHp} {nx : Nat} {Q : Option Value → zHp → zHp → Nat → Prop} (ho0 : iDes cI hi a0 x0) (h : k_tellDawns_72 n x0 x2 x3 s = some x) (hL72 : ∀ s : Int32 × Int64 × Int32 × Int32 × Int32 × Int32 × Int32, x = (.inl s) → zV s0 D (zty cB cI cJ cD) yX0_tellDawns cX0_tellDawns 15 (some .int) 4 91 0 0 72 [(0, .ref a0), (2, .int x2), (3, .int x3), (4, .int s.1), (5, .long s.2.1), (7, .int s.2.2.1), (8, .int s.2.2.2.1), (9, .int s.2.2.2.2.1), (10, .int s.2.2.2.2.2.1), (11, .int s.2.2.2.2.2.2)] [] hi hm nx Q) (hQ : ∀ r : Int32, x = (.inr r) → Q (some (.int r)) hi hm nx) : zV s0 D (zty cB cI cJ cD) yX0_tellDawns cX0_tellDawns 15 (some .int) 4 91 0 0 72 [(0, .ref a0), (2, .int x2), (3, .int x3), (4, .int s.1), (5, .long s.2.1), (7, .int s.2.2.1), (8, .int s.2.2.2.1), (9, .int s.2.2.2.2.1), (10, .int s.2.2.2.2.2.1), (11, .int s.2.2.2.2.2.2)] [] hi hm nx Q := by
  unfold k_tellDawns_72 at h
  refine zV_blk (pc' := 75) (lo' := [(0, .ref a0), (2, .int x2), (3, .int x3), (4, .int s.1), (5, .long s.2.1), (7, .int s.2.2.1), (8, .int s.2.2.2.1), (9, .int s.2.2.2.2.1), (10, .int s.2.2.2.2.2.1), (11, .int s.2.2.2.2.2.2)]) (st' := [.int x2, .int s.2.2.2.2.2.2]) [.iload 11, .iload_n 2] (by decide +kernel) rfl ?_
  refine zV_icmp_gt (tgt := 176) (off := 101) (by decide +kernel) (by decide) (fun q => ?_) (fun q => ?_)
  · replace h := zif_pos q h
    clear q
    refine zV_blk (pc' := 177) (lo' := [(0, .ref a0), (2, .int x2), (3, .int x3), (4, .int s.1), (5, .long s.2.1), (7, .int s.2.2.1), (8, .int s.2.2.2.1), (9, .int s.2.2.2.2.1), (10, .int s.2.2.2.2.2.1), (11, .int s.2.2.2.2.2.2)]) (st' := [.int x3]) [.iload_n 3] (by decide +kernel) rfl ?_
    refine zV_if_ne (tgt := 183) (off := 6) (by decide +kernel) (by decide) (fun q => ?_) (fun q => ?_)
    · replace h := zif_neg q h
      clear q
      refine zV_blk (pc' := 185) (lo' := [(0, .ref a0), (2, .int x2), (3, .int x3), (4, .int s.1), (5, .long s.2.1), (7, .int s.2.2.1), (8, .int s.2.2.2.1), (9, .int s.2.2.2.2.1), (10, .int s.2.2.2.2.2.1), (11, .int s.2.2.2.2.2.2)]) (st' := [.int 1, .int x3]) [.iload_n 3, .iconst 1] (by decide +kernel) rfl ?_
      refine zV_icmp_ne (tgt := 193) (off := 8) (by decide +kernel) (by decide) (fun q => ?_) (fun q => ?_)
      · replace h := zif_neg q h
        clear q
        refine zV_blk (pc' := 195) (lo' := [(0, .ref a0), (2, .int x2), (3, .int x3), (4, .int s.1), (5, .long s.2.1), (7, .int s.2.2.1), (8, .int s.2.2.2.1), (9, .int s.2.2.2.2.1), (10, .int s.2.2.2.2.2.1), (11, .int s.2.2.2.2.2.2)]) (st' := [.int s.2.2.2.2.2.1]) [.iload 10] (by decide +kernel) rfl ?_
        obtain rfl := Option.some.inj h
        exact zV_iret rfl (by decide +kernel) (hQ _ rfl)
      · replace h := zif_pos q h
        clear q
        refine zV_blk (pc' := 190) (lo' := [(0, .ref a0), (2, .int x2), (3, .int x3), (4, .int s.1), (5, .long s.2.1), (7, .int s.2.2.1), (8, .int s.2.2.2.1), (9, .int s.2.2.2.2.1), (10, .int s.2.2.2.2.2.1), (11, .int s.2.2.2.2.2.2)]) (st' := [.int s.2.2.2.2.1]) [.iload 9] (by decide +kernel) rfl ?_
        refine zV_goto (tgt := 195) (off := 5) (by decide +kernel) (by decide) ?_
        obtain rfl := Option.some.inj h
        exact zV_iret rfl (by decide +kernel) (hQ _ rfl)
    · replace h := zif_pos q h
      clear q
      refine zV_blk (pc' := 182) (lo' := [(0, .ref a0), (2, .int x2), (3, .int x3), (4, .int s.1), (5, .long s.2.1), (7, .int s.2.2.1), (8, .int s.2.2.2.1), (9, .int s.2.2.2.2.1), (10, .int s.2.2.2.2.2.1), (11, .int s.2.2.2.2.2.2)]) (st' := [.int s.2.2.2.1]) [.iload 8] (by decide +kernel) rfl ?_
      obtain rfl := Option.some.inj h
      exact zV_iret rfl (by decide +kernel) (hQ _ rfl)
  · replace h := zif_neg q h
    clear q
    refine zV_blk (pc' := 81) (lo' := [(0, .ref a0), (2, .int x2), (3, .int x3), (4, .int s.1), (5, .long s.2.1), (7, .int s.2.2.1), (8, .int s.2.2.2.1), (9, .int s.2.2.2.2.1), (10, .int s.2.2.2.2.2.1), (11, .int s.2.2.2.2.2.2)]) (st' := [.int s.2.2.2.2.2.2, .ref a0]) [.aload_n 0, .iload 11] (by decide +kernel) rfl ?_
    obtain ⟨v1, hv1, h⟩ := zbind h
    obtain ⟨b2, b3, b4, hc5, hc6, hc7, hc8⟩ := ho0
    refine zV_roV (idx := 148) (rest := []) (fs := [.ref b2, .ref b3, .ref b4]) (ci := 0) (fun Q2 hQ2 => ck_dawnOf s0 D cB cI cJ cD x0 s.2.2.2.2.2.2 a0 v1 hv1 ⟨b2, b3, b4, hc5, hc6, hc7, hc8⟩ hQ2) oX0_dawnOf (Or.inl hc5) rfl (zT_mem 1193 (by decide +kernel) rfl) (zT_mem 1194 (by decide +kernel) rfl) (zT_mem 1195 (by decide +kernel) rfl) rfl rfl (Nat.le_of_ble_eq_true rfl) ⟨by decide, by decide⟩ (by decide +kernel) ?_
    refine zV_eq (st2 := [.long v1]) rfl rfl rfl rfl ?_
    refine zV_blk (pc' := 86) (lo' := [(12, .long v1), (0, .ref a0), (2, .int x2), (3, .int x3), (4, .int s.1), (5, .long s.2.1), (7, .int s.2.2.1), (8, .int s.2.2.2.1), (9, .int s.2.2.2.2.1), (10, .int s.2.2.2.2.2.1), (11, .int s.2.2.2.2.2.2)]) (st' := []) [.lstore 12] (by decide +kernel) rfl ?_
    refine zV_pick (lo2 := [(0, .ref a0), (2, .int x2), (3, .int x3), (4, .int s.1), (5, .long s.2.1), (7, .int s.2.2.1), (8, .int s.2.2.2.1), (9, .int s.2.2.2.2.1), (10, .int s.2.2.2.2.2.1), (11, .int s.2.2.2.2.2.2), (12, .long v1)]) [1, 2, 3, 4, 5, 6, 7, 8, 9, 10, 0] rfl ?_
    exact ck_tellDawns_86L s0 D cB cI cJ cD n x0 x2 x3 s.2.2.2.1 s.2.2.2.2.1 s.2.2.2.2.2.1 s.2.2.2.2.2.2 v1 a0 n (s.1, s.2.1, s.2.2.1) ⟨b2, b3, b4, hc5, hc6, hc7, hc8⟩ h hL72 hQ
theorem ck_tellDawns_72L (s0 : State) (D : va_G) (cB cI cJ cD : ClassId) (n : Nat) (x0 : vDes) (x2 : Int32) (x3 : Int32) (a0 : Nat) : ∀ (k : Nat) (s : Int32 × Int64 × Int32 × Int32 × Int32 × Int32 × Int32) {hi hm : zHp} {nx : Nat} {Q : Option Value → zHp → zHp → Nat → Prop} (ho0 : iDes cI hi a0 x0) {x : Int32} (_ : zloop (k_tellDawns_72 n x0 x2 x3) k s = some x) (hQ : ∀ r : Int32, x = r → Q (some (.int r)) hi hm nx), zV s0 D (zty cB cI cJ cD) yX0_tellDawns cX0_tellDawns 15 (some .int) 4 91 0 0 72 [(0, .ref a0), (2, .int x2), (3, .int x3), (4, .int s.1), (5, .long s.2.1), (7, .int s.2.2.1), (8, .int s.2.2.2.1), (9, .int s.2.2.2.2.1), (10, .int s.2.2.2.2.2.1), (11, .int s.2.2.2.2.2.2)] [] hi hm nx Q
  | 0, s, _, _, _, _, _, _, h, _ => by cases h
  | k + 1, s, hi, hm, nx, Q, ho0, x, h, hQ => by
    obtain ⟨z, hz, h1, h2⟩ := zloop_succ h
    exact ck_tellDawns_72 s0 D cB cI cJ cD n x0 x2 x3 a0 s ho0 hz (fun s' hs => ck_tellDawns_72L s0 D cB cI cJ cD n x0 x2 x3 a0 k s' ho0 (h1 s' hs) hQ) (fun r hr => hQ r (h2 _ hr).symm)
def k_tellDawns (n : Nat) (x0 : vDes) (x1 : Int32) (x2 : Int32) (x3 : Int32) : Option (Int32) := (k_dawnOf x0 x1).bind (fun v1 => (k_holds n x0 v1).bind (fun v9 => (if v9 = true then (k_dawnOf x0 x2).bind (fun v10 => (k_holds n x0 v10).bind (fun v11 => (if v11 = true then (k_dawnOf x0 x1).bind (fun v12 => (k_yearOf n x0 v12).bind (fun v13 => (k_startOf n x0 v13).bind (fun v14 => (k_daysOf n x0 v13).bind (fun v15 => (k_yearDays x0.1 1).bind (fun v16 => (zloop (k_tellDawns_72 n x0 x2 x3) n (v13, v14, v15, v16, 0, 0, x1))))))) else some (-1)))) else some (-1))))
theorem oX0_tellDawns : zO yX0_tellDawns cX0_tellDawns 15 (some .int) 3 := ⟨zT_mem 1192 (by decide +kernel) rfl, zT_mem 105 (by decide +kernel) rfl, by decide +kernel, by decide +kernel, by decide +kernel⟩
set_option maxHeartbeats 4000000 in
set_option maxRecDepth 100000 in
theorem ck_tellDawns (s0 : State) (D : va_G) (cB cI cJ cD : ClassId) (n : Nat) (x0 : vDes) (x1 : Int32) (x2 : Int32) (x3 : Int32) (a0 : Nat) (x : Int32) (h : k_tellDawns n x0 x1 x2 x3 = some x) {hi hm : zHp} {nx : Nat} {Q : Option Value → zHp → zHp → Nat → Prop} (ho0 : iDes cI hi a0 x0) (hQ0 : Q (some (.int x)) hi hm nx) : zM s0 D (zty cB cI cJ cD) yX0_tellDawns cX0_tellDawns 15 (some .int) 4 91 0 0 [.ref a0, .int x1, .int x2, .int x3] hi hm nx Q := by
  have hQ : ∀ r : Int32, x = r → Q (some (.int r)) hi hm nx := fun r hr => by subst hr; exact hQ0
  clear hQ0
  refine zM_of (by decide +kernel) (Nat.le_of_ble_eq_true rfl) ?_
  unfold k_tellDawns at h
  refine zV_eq (lo2 := [(0, .ref a0), (1, .int x1), (2, .int x2), (3, .int x3)]) rfl rfl rfl rfl ?_
  refine zV_blk (pc' := 3) (lo' := [(0, .ref a0), (1, .int x1), (2, .int x2), (3, .int x3)]) (st' := [.int x1, .ref a0, .ref a0]) [.aload_n 0, .aload_n 0, .iload_n 1] (by decide +kernel) rfl ?_
  obtain ⟨v1, hv1, h⟩ := zbind h
  obtain ⟨b2, b3, b4, hc5, hc6, hc7, hc8⟩ := ho0
  refine zV_roV (idx := 148) (rest := [.ref a0]) (fs := [.ref b2, .ref b3, .ref b4]) (ci := 0) (fun Q2 hQ2 => ck_dawnOf s0 D cB cI cJ cD x0 x1 a0 v1 hv1 ⟨b2, b3, b4, hc5, hc6, hc7, hc8⟩ hQ2) oX0_dawnOf (Or.inl hc5) rfl (zT_mem 1193 (by decide +kernel) rfl) (zT_mem 1194 (by decide +kernel) rfl) (zT_mem 1195 (by decide +kernel) rfl) rfl rfl (Nat.le_of_ble_eq_true rfl) ⟨by decide, by decide⟩ (by decide +kernel) ?_
  refine zV_eq (st2 := [.long v1, .ref a0]) rfl rfl rfl rfl ?_
  obtain ⟨v9, hv9, h⟩ := zbind h
  refine zV_roV (idx := 104) (rest := []) (fs := [.ref b2, .ref b3, .ref b4]) (ci := 0) (fun Q2 hQ2 => ck_holds s0 D cB cI cJ cD n x0 v1 a0 v9 hv9 ⟨b2, b3, b4, hc5, hc6, hc7, hc8⟩ hQ2) oX0_holds (Or.inl hc5) rfl (zT_mem 1058 (by decide +kernel) rfl) (zT_mem 1059 (by decide +kernel) rfl) (zT_mem 1060 (by decide +kernel) rfl) rfl rfl (Nat.le_of_ble_eq_true rfl) ⟨by decide, by decide⟩ (by decide +kernel) ?_
  refine zV_eq (st2 := [.int (zb v9)]) rfl rfl rfl rfl ?_
  refine zV_bif_eq (tgt := 24) (off := 15) (by decide +kernel) (by decide) (fun q => ?_) (fun q => ?_)
  · replace h := zif_neg q h
    clear q
    refine zV_blk (pc' := 25) (lo' := [(0, .ref a0), (1, .int x1), (2, .int x2), (3, .int x3)]) (st' := [.int (-1)]) [.iconst (-1)] (by decide +kernel) rfl ?_
    obtain rfl := Option.some.inj h
    exact zV_iret rfl (by decide +kernel) (hQ _ rfl)
  · replace h := zif_pos q h
    clear q
    refine zV_blk (pc' := 15) (lo' := [(0, .ref a0), (1, .int x1), (2, .int x2), (3, .int x3)]) (st' := [.int x2, .ref a0, .ref a0]) [.aload_n 0, .aload_n 0, .iload_n 2] (by decide +kernel) rfl ?_
    obtain ⟨v10, hv10, h⟩ := zbind h
    refine zV_roV (idx := 148) (rest := [.ref a0]) (fs := [.ref b2, .ref b3, .ref b4]) (ci := 0) (fun Q2 hQ2 => ck_dawnOf s0 D cB cI cJ cD x0 x2 a0 v10 hv10 ⟨b2, b3, b4, hc5, hc6, hc7, hc8⟩ hQ2) oX0_dawnOf (Or.inl hc5) rfl (zT_mem 1193 (by decide +kernel) rfl) (zT_mem 1194 (by decide +kernel) rfl) (zT_mem 1195 (by decide +kernel) rfl) rfl rfl (Nat.le_of_ble_eq_true rfl) ⟨by decide, by decide⟩ (by decide +kernel) ?_
    refine zV_eq (st2 := [.long v10, .ref a0]) rfl rfl rfl rfl ?_
    obtain ⟨v11, hv11, h⟩ := zbind h
    refine zV_roV (idx := 104) (rest := []) (fs := [.ref b2, .ref b3, .ref b4]) (ci := 0) (fun Q2 hQ2 => ck_holds s0 D cB cI cJ cD n x0 v10 a0 v11 hv11 ⟨b2, b3, b4, hc5, hc6, hc7, hc8⟩ hQ2) oX0_holds (Or.inl hc5) rfl (zT_mem 1058 (by decide +kernel) rfl) (zT_mem 1059 (by decide +kernel) rfl) (zT_mem 1060 (by decide +kernel) rfl) rfl rfl (Nat.le_of_ble_eq_true rfl) ⟨by decide, by decide⟩ (by decide +kernel) ?_
    refine zV_eq (st2 := [.int (zb v11)]) rfl rfl rfl rfl ?_
    refine zV_bif_ne (tgt := 26) (off := 5) (by decide +kernel) (by decide) (fun q => ?_) (fun q => ?_)
    · replace h := zif_pos q h
      clear q
      refine zV_blk (pc' := 29) (lo' := [(0, .ref a0), (1, .int x1), (2, .int x2), (3, .int x3)]) (st' := [.int x1, .ref a0, .ref a0]) [.aload_n 0, .aload_n 0, .iload_n 1] (by decide +kernel) rfl ?_
      obtain ⟨v12, hv12, h⟩ := zbind h
      refine zV_roV (idx := 148) (rest := [.ref a0]) (fs := [.ref b2, .ref b3, .ref b4]) (ci := 0) (fun Q2 hQ2 => ck_dawnOf s0 D cB cI cJ cD x0 x1 a0 v12 hv12 ⟨b2, b3, b4, hc5, hc6, hc7, hc8⟩ hQ2) oX0_dawnOf (Or.inl hc5) rfl (zT_mem 1193 (by decide +kernel) rfl) (zT_mem 1194 (by decide +kernel) rfl) (zT_mem 1195 (by decide +kernel) rfl) rfl rfl (Nat.le_of_ble_eq_true rfl) ⟨by decide, by decide⟩ (by decide +kernel) ?_
      refine zV_eq (st2 := [.long v12, .ref a0]) rfl rfl rfl rfl ?_
      obtain ⟨v13, hv13, h⟩ := zbind h
      refine zV_roV (idx := 108) (rest := []) (fs := [.ref b2, .ref b3, .ref b4]) (ci := 0) (fun Q2 hQ2 => ck_yearOf s0 D cB cI cJ cD n x0 v12 a0 v13 hv13 ⟨b2, b3, b4, hc5, hc6, hc7, hc8⟩ hQ2) oX0_yearOf (Or.inl hc5) rfl (zT_mem 1065 (by decide +kernel) rfl) (zT_mem 1066 (by decide +kernel) rfl) (zT_mem 1067 (by decide +kernel) rfl) rfl rfl (Nat.le_of_ble_eq_true rfl) ⟨by decide, by decide⟩ (by decide +kernel) ?_
      refine zV_eq (st2 := [.int v13]) rfl rfl rfl rfl ?_
      refine zV_blk (pc' := 40) (lo' := [(4, .int v13), (0, .ref a0), (1, .int x1), (2, .int x2), (3, .int x3)]) (st' := [.int v13, .ref a0]) [.istore 4, .aload_n 0, .iload 4] (by decide +kernel) rfl ?_
      obtain ⟨v14, hv14, h⟩ := zbind h
      refine zV_roV (idx := 47) (rest := []) (fs := [.ref b2, .ref b3, .ref b4]) (ci := 0) (fun Q2 hQ2 => ck_startOf s0 D cB cI cJ cD n x0 v13 a0 v14 hv14 ⟨b2, b3, b4, hc5, hc6, hc7, hc8⟩ hQ2) oX0_startOf (Or.inl hc5) rfl (zT_mem 718 (by decide +kernel) rfl) (zT_mem 719 (by decide +kernel) rfl) (zT_mem 720 (by decide +kernel) rfl) rfl rfl (Nat.le_of_ble_eq_true rfl) ⟨by decide, by decide⟩ (by decide +kernel) ?_
      refine zV_eq (st2 := [.long v14]) rfl rfl rfl rfl ?_
      refine zV_blk (pc' := 48) (lo' := [(5, .long v14), (4, .int v13), (0, .ref a0), (1, .int x1), (2, .int x2), (3, .int x3)]) (st' := [.int v13, .ref a0]) [.lstore 5, .aload_n 0, .iload 4] (by decide +kernel) rfl ?_
      obtain ⟨v15, hv15, h⟩ := zbind h
      refine zV_roV (idx := 151) (rest := []) (fs := [.ref b2, .ref b3, .ref b4]) (ci := 0) (fun Q2 hQ2 => ck_daysOf s0 D cB cI cJ cD n x0 v13 a0 v15 hv15 ⟨b2, b3, b4, hc5, hc6, hc7, hc8⟩ hQ2) oX0_daysOf (Or.inl hc5) rfl (zT_mem 1200 (by decide +kernel) rfl) (zT_mem 1042 (by decide +kernel) rfl) (zT_mem 1043 (by decide +kernel) rfl) rfl rfl (Nat.le_of_ble_eq_true rfl) ⟨by decide, by decide⟩ (by decide +kernel) ?_
      refine zV_eq (st2 := [.int v15]) rfl rfl rfl rfl ?_
      refine zV_blk (pc' := 54) (lo' := [(7, .int v15), (5, .long v14), (4, .int v13), (0, .ref a0), (1, .int x1), (2, .int x2), (3, .int x3)]) (st' := [.ref a0]) [.istore 7, .aload_n 0] (by decide +kernel) rfl ?_
      refine zV_get (ci := 0) (idx := 9) (k := 0) (N := 3) (fs := [.ref b2, .ref b3, .ref b4]) (v := .ref b2) (Or.inl hc5) rfl z_in0 (by decide) (zT_mem 563 (by decide +kernel) rfl) rfl (by decide +kernel) ?_
      refine zV_blk (pc' := 58) (lo' := [(7, .int v15), (5, .long v14), (4, .int v13), (0, .ref a0), (1, .int x1), (2, .int x2), (3, .int x3)]) (st' := [.int 1, .ref b2]) [.iconst 1] (by decide +kernel) rfl ?_
      obtain ⟨v16, hv16, h⟩ := zbind h
      obtain ⟨b17, hc18, hb19⟩ := hc6
      refine zV_roV (idx := 74) (rest := []) (fs := [.int x0.1.1, .int x0.1.2.1, .ref b17, .int x0.1.2.2.2.1, .int x0.1.2.2.2.2.1, .int x0.1.2.2.2.2.2]) (ci := 3) (fun Q2 hQ2 => ck_yearDays s0 D cB cI cJ cD x0.1 1 b2 v16 hv16 ⟨b17, hc18, hb19⟩ hQ2) oX3_yearDays (Or.inl hc18) rfl (zT_mem 1046 (by decide +kernel) rfl) (zT_mem 1047 (by decide +kernel) rfl) (zT_mem 1048 (by decide +kernel) rfl) rfl rfl (Nat.le_of_ble_eq_true rfl) ⟨by decide, by decide⟩ (by decide +kernel) ?_
      refine zV_eq (st2 := [.int v16]) rfl rfl rfl rfl ?_
      refine zV_blk (pc' := 72) (lo' := [(11, .int x1), (10, .int 0), (9, .int 0), (8, .int v16), (7, .int v15), (5, .long v14), (4, .int v13), (0, .ref a0), (1, .int x1), (2, .int x2), (3, .int x3)]) (st' := []) [.istore 8, .iconst 0, .istore 9, .iconst 0, .istore 10, .iload_n 1, .istore 11] (by decide +kernel) rfl ?_
      refine zV_pick (lo2 := [(0, .ref a0), (2, .int x2), (3, .int x3), (4, .int v13), (5, .long v14), (7, .int v15), (8, .int v16), (9, .int 0), (10, .int 0), (11, .int x1)]) [7, 9, 10, 6, 5, 4, 3, 2, 1, 0] rfl ?_
      exact ck_tellDawns_72L s0 D cB cI cJ cD n x0 x2 x3 a0 n (v13, v14, v15, v16, 0, 0, x1) ⟨b2, b3, b4, hc5, ⟨b17, hc18, hb19⟩, hc7, hc8⟩ h hQ
    · replace h := zif_neg q h
      clear q
      refine zV_blk (pc' := 25) (lo' := [(0, .ref a0), (1, .int x1), (2, .int x2), (3, .int x3)]) (st' := [.int (-1)]) [.iconst (-1)] (by decide +kernel) rfl ?_
      obtain rfl := Option.some.inj h
      exact zV_iret rfl (by decide +kernel) (hQ _ rfl)

