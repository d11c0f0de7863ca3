def k_timesOnWeekday_162 (n : Nat) (x0 : vDes) (x1 : Int32) (x2 : Int32) (x5 : Int32) (x6 : Int32) (x7 : Int32) (x8 : Int32) (x9 : Int32) (x10 : Int64) (x12 : Int32) (x13 : Int32) (x14 : Int32) : Option ((Int64 × Int32 × Int32) ⊕ (Int32)) := (k_yearDays x0.1 x14).bind (fun v8 => some (.inl ((x10 + (v8 : Int32).toInt64), x12, (x13 + 1))))
set_option maxHeartbeats 4000000 in
set_option maxRecDepth 100000 in
theorem ck_timesOnWeekday_162 (s0 : State) (D : va_G) (cB cI cJ cD : ClassId) (n : Nat) (x0 : vDes) (x1 : Int32) (x2 : Int32) (x5 : Int32) (x6 : Int32) (x7 : Int32) (x8 : Int32) (x9 : Int32) (x10 : Int64) (x12 : Int32) (x13 : Int32) (x14 : Int32) (a0 : Nat) {x : (Int64 × Int32 × Int32) ⊕ (Int32)} {hi hm : zHp} {nx : Nat} {Q : Option Value → zHp → zHp → Nat → Prop} (ho0 : iDes cI hi a0 x0) (h : k_timesOnWeekday_162 n x0 x1 x2 x5 x6 x7 x8 x9 x10 x12 x13 x14 = some x) (hL83 : ∀ s : Int64 × Int32 × Int32, x = (.inl s) → zV s0 D (zty cB cI cJ cD) yX0_timesOnWeekday cX0_timesOnWeekday 17 (some .int) 3 67 0 0 83 [(0, .ref a0), (1, .int x1), (2, .int x2), (5, .int x5), (6, .int x6), (7, .int x7), (8, .int x8), (9, .int x9), (10, .long s.1), (12, .int s.2.1), (13, .int s.2.2)] [] hi hm nx Q) (hQ : ∀ r : Int32, x = (.inr r) → Q (some (.int r)) hi hm nx) : zV s0 D (zty cB cI cJ cD) yX0_timesOnWeekday cX0_timesOnWeekday 17 (some .int) 3 67 0 0 162 [(0, .ref a0), (1, .int x1), (2, .int x2), (5, .int x5), (6, .int x6), (7, .int x7), (8, .int x8), (9, .int x9), (10, .long x10), (12, .int x12), (13, .int x13), (14, .int x14)] [] hi hm nx Q := by
  unfold k_timesOnWeekday_162 at h
  refine zV_blk (pc' := 165) (lo' := [(0, .ref a0), (1, .int x1), (2, .int x2), (5, .int x5), (6, .int x6), (7, .int x7), (8, .int x8), (9, .int x9), (10, .long x10), (12, .int x12), (13, .int x13), (14, .int x14)]) (st' := [.ref a0, .long x10]) [.lload 10, .aload_n 0] (by decide +kernel) rfl ?_
  obtain ⟨b1, b2, b3, hc4, hc5, hc6, hc7⟩ := ho0
  refine zV_get (ci := 0) (idx := 9) (k := 0) (N := 3) (fs := [.ref b1, .ref b2, .ref b3]) (v := .ref b1) (Or.inl hc4) rfl z_in0 (by decide) (zT_mem 563 (by decide +kernel) rfl) rfl (by decide +kernel) ?_
  refine zV_blk (pc' := 170) (lo' := [(0, .ref a0), (1, .int x1), (2, .int x2), (5, .int x5), (6, .int x6), (7, .int x7), (8, .int x8), (9, .int x9), (10, .long x10), (12, .int x12), (13, .int x13), (14, .int x14)]) (st' := [.int x14, .ref b1, .long x10]) [.iload 14] (by decide +kernel) rfl ?_
  obtain ⟨v8, hv8, h⟩ := zbind h
  obtain ⟨b9, hc10, hb11⟩ := hc5
  refine zV_roV (idx := 74) (rest := [.long x10]) (fs := [.int x0.1.1, .int x0.1.2.1, .ref b9, .int x0.1.2.2.2.1, .int x0.1.2.2.2.2.1, .int x0.1.2.2.2.2.2]) (ci := 3) (fun Q2 hQ2 => ck_yearDays s0 D cB cI cJ cD x0.1 x14 b1 v8 hv8 ⟨b9, hc10, hb11⟩ hQ2) oX3_yearDays (Or.inl hc10) rfl (zT_mem 1046 (by decide +kernel) rfl) (zT_mem 1047 (by decide +kernel) rfl) (zT_mem 1048 (by decide +kernel) rfl) rfl rfl (Nat.le_of_ble_eq_true rfl) ⟨by decide, by decide⟩ (by decide +kernel) ?_
  refine zV_eq (st2 := [.int v8, .long x10]) rfl rfl rfl rfl ?_
  refine zV_blk (pc' := 180) (lo' := [(13, .int (x13 + 1)), (10, .long (x10 + (v8 : Int32).toInt64)), (0, .ref a0), (1, .int x1), (2, .int x2), (5, .int x5), (6, .int x6), (7, .int x7), (8, .int x8), (9, .int x9), (12, .int x12), (14, .int x14)]) (st' := []) [.i2l, .ladd, .lstore 10, .iinc 13 1] (by decide +kernel) rfl ?_
  refine zV_goto (tgt := 83) (off := -97) (by decide +kernel) (by decide) ?_
  obtain rfl := Option.some.inj h
  refine zV_pick (lo2 := [(0, .ref a0), (1, .int x1), (2, .int x2), (5, .int x5), (6, .int x6), (7, .int x7), (8, .int x8), (9, .int x9), (10, .long (x10 + (v8 : Int32).toInt64)), (12, .int x12), (13, .int (x13 + 1))]) [2, 3, 4, 5, 6, 7, 8, 9, 1, 10, 0] rfl ?_
  exact hL83 _ rfl
def k_timesOnWeekday_159 (n : Nat) (x0 : vDes) (x1 : Int32) (x2 : Int32) (x5 : Int32) (x6 : Int32) (x7 : Int32) (x8 : Int32) (x9 : Int32) (x10 : Int64) (x13 : Int32) (x14 : Int32) (t0 : Int32) (t1 : Int32) : Option ((Int64 × Int32 × Int32) ⊕ (Int32)) := (k_timesOnWeekday_162 n x0 x1 x2 x5 x6 x7 x8 x9 x10 (t0 + t1) x13 x14 )
set_option maxHeartbeats 4000000 in
set_option maxRecDepth 100000 in
theorem ck_timesOnWeekday_159 (s0 : State) (D : va_G) (cB cI cJ cD : ClassId) (n : Nat) (x0 : vDes) (x1 : Int32) (x2 : Int32) (x5 : Int32) (x6 : Int32) (x7 : Int32) (x8 : Int32) (x9 : Int32) (x10 : Int64) (x13 : Int32) (x14 : Int32) (t0 : Int32) (t1 : Int32) (a0 : Nat) {x : (Int64 × Int32 × Int32) ⊕ (Int32)} {hi hm : zHp} {nx : Nat} {Q : Option Value → zHp → zHp → Nat → Prop} (ho0 : iDes cI hi a0 x0) (h : k_timesOnWeekday_159 n x0 x1 x2 x5 x6 x7 x8 x9 x10 x13 x14 t0 t1 = some x) (hL83 : ∀ s : Int64 × Int32 × Int32, x = (.inl s) → zV s0 D (zty cB cI cJ cD) yX0_timesOnWeekday cX0_timesOnWeekday 17 (some .int) 3 67 0 0 83 [(0, .ref a0), (1, .int x1), (2, .int x2), (5, .int x5), (6, .int x6), (7, .int x7), (8, .int x8), (9, .int x9), (10, .long s.1), (12, .int s.2.1), (13, .int s.2.2)] [] hi hm nx Q) (hQ : ∀ r : Int32, x = (.inr r) → Q (some (.int r)) hi hm nx) : zV s0 D (zty cB cI cJ cD) yX0_timesOnWeekday cX0_timesOnWeekday 17 (some .int) 3 67 0 0 159 [(0, .ref a0), (1, .int x1), (2, .int x2), (5, .int x5), (6, .int x6), (7, .int x7), (8, .int x8), (9, .int x9), (10, .long x10), (13, .int x13), (14, .int x14)] [.int t1, .int t0] hi hm nx Q := by
  unfold k_timesOnWeekday_159 at h
  refine zV_blk (pc' := 162) (lo' := [(12, .int (t0 + t1)), (0, .ref a0), (1, .int x1), (2, .int x2), (5, .int x5), (6, .int x6), (7, .int x7), (8, .int x8), (9, .int x9), (10, .long x10), (13, .int x13), (14, .int x14)]) (st' := []) [.iadd, .istore 12] (by decide +kernel) rfl ?_
  refine zV_pick (lo2 := [(0, .ref a0), (1, .int x1), (2, .int x2), (5, .int x5), (6, .int x6), (7, .int x7), (8, .int x8), (9, .int x9), (10, .long x10), (12, .int (t0 + t1)), (13, .int x13), (14, .int x14)]) [1, 2, 3, 4, 5, 6, 7, 8, 9, 0, 10, 11] rfl ?_
  exact ck_timesOnWeekday_162 s0 D cB cI cJ cD n x0 x1 x2 x5 x6 x7 x8 x9 x10 (t0 + t1) x13 x14  a0 ho0 h hL83 hQ
def k_timesOnWeekday_134 (n : Nat) (x0 : vDes) (x1 : Int32) (x2 : Int32) (x5 : Int32) (x6 : Int32) (x7 : Int32) (x8 : Int32) (x9 : Int32) (x10 : Int64) (x12 : Int32) (x13 : Int32) (x14 : Int32) (t0 : Int64) (t1 : Int32) : Option ((Int64 × Int32 × Int32) ⊕ (Int32)) := (k_weekdayOf x0.1 (t0 + (t1 : Int32).toInt64)).bind (fun v8 => (if (v8 : Int32) = (x5 : Int32) then (k_timesOnWeekday_159 n x0 x1 x2 x5 x6 x7 x8 x9 x10 x13 x14 x12 1) else (k_timesOnWeekday_159 n x0 x1 x2 x5 x6 x7 x8 x9 x10 x13 x14 x12 0)))
set_option maxHeartbeats 4000000 in
set_option maxRecDepth 100000 in
theorem ck_timesOnWeekday_134 (s0 : State) (D : va_G) (cB cI cJ cD : ClassId) (n : Nat) (x0 : vDes) (x1 : Int32) (x2 : Int32) (x5 : Int32) (x6 : Int32) (x7 : Int32) (x8 : Int32) (x9 : Int32) (x10 : Int64) (x12 : Int32) (x13 : Int32) (x14 : Int32) (t0 : Int64) (t1 : Int32) (a0 : Nat) {x : (Int64 × Int32 × Int32) ⊕ (Int32)} {hi hm : zHp} {nx : Nat} {Q : Option Value → zHp → zHp → Nat → Prop} (ho0 : iDes cI hi a0 x0) (h : k_timesOnWeekday_134 n x0 x1 x2 x5 x6 x7 x8 x9 x10 x12 x13 x14 t0 t1 = some x) (hL83 : ∀ s : Int64 × Int32 × Int32, x = (.inl s) → zV s0 D (zty cB cI cJ cD) yX0_timesOnWeekday cX0_timesOnWeekday 17 (some .int) 3 67 0 0 83 [(0, .ref a0), (1, .int x1), (2, .int x2), (5, .int x5), (6, .int x6), (7, .int x7), (8, .int x8), (9, .int x9), (10, .long s.1), (12, .int s.2.1), (13, .int s.2.2)] [] hi hm nx Q) (hQ : ∀ r : Int32, x = (.inr r) → Q (some (.int r)) hi hm nx) : zV s0 D (zty cB cI cJ cD) yX0_timesOnWeekday cX0_timesOnWeekday 17 (some .int) 3 67 0 0 134 [(0, .ref a0), (1, .int x1), (2, .int x2), (5, .int x5), (6, .int x6), (7, .int x7), (8, .int x8), (9, .int x9), (10, .long x10), (12, .int x12), (13, .int x13), (14, .int x14)] [.int t1, .long t0] hi hm nx Q := by
  unfold k_timesOnWeekday_134 at h
  refine zV_blk (pc' := 141) (lo' := [(15, .long (t0 + (t1 : Int32).toInt64)), (0, .ref a0), (1, .int x1), (2, .int x2), (5, .int x5), (6, .int x6), (7, .int x7), (8, .int x8), (9, .int x9), (10, .long x10), (12, .int x12), (13, .int x13), (14, .int x14)]) (st' := [.ref a0, .int x12]) [.i2l, .ladd, .lstore 15, .iload 12, .aload_n 0] (by decide +kernel) rfl ?_
  obtain ⟨b1, b2, b3, hc4, hc5, hc6, hc7⟩ := ho0
  refine zV_get (ci := 0) (idx := 9) (k := 0) (N := 3) (fs := [.ref b1, .ref b2, .ref b3]) (v := .ref b1) (Or.inl hc4) rfl z_in0 (by decide) (zT_mem 563 (by decide +kernel) rfl) rfl (by decide +kernel) ?_
  refine zV_blk (pc' := 146) (lo' := [(15, .long (t0 + (t1 : Int32).toInt64)), (0, .ref a0), (1, .int x1), (2, .int x2), (5, .int x5), (6, .int x6), (7, .int x7), (8, .int x8), (9, .int x9), (10, .long x10), (12, .int x12), (13, .int x13), (14, .int x14)]) (st' := [.long (t0 + (t1 : Int32).toInt64), .ref b1, .int x12]) [.lload 15] (by decide +kernel) rfl ?_
  obtain ⟨v8, hv8, h⟩ := zbind h
  obtain ⟨b9, hc10, hb11⟩ := hc5
  refine zV_roV (idx := 115) (rest := [.int x12]) (fs := [.int x0.1.1, .int x0.1.2.1, .ref b9, .int x0.1.2.2.2.1, .int x0.1.2.2.2.2.1, .int x0.1.2.2.2.2.2]) (ci := 3) (fun Q2 hQ2 => ck_weekdayOf s0 D cB cI cJ cD x0.1 (t0 + (t1 : Int32).toInt64) b1 v8 hv8 ⟨b9, hc10, hb11⟩ hQ2) oX3_weekdayOf (Or.inl hc10) rfl (zT_mem 1080 (by decide +kernel) rfl) (zT_mem 1081 (by decide +kernel) rfl) (zT_mem 1082 (by decide +kernel) rfl) rfl rfl (Nat.le_of_ble_eq_true rfl) ⟨by decide, by decide⟩ (by decide +kernel) ?_
  refine zV_eq (st2 := [.int v8, .int x12]) rfl rfl rfl rfl ?_
  refine zV_blk (pc' := 151) (lo' := [(15, .long (t0 + (t1 : Int32).toInt64)), (0, .ref a0), (1, .int x1), (2, .int x2), (5, .int x5), (6, .int x6), (7, .int x7), (8, .int x8), (9, .int x9), (10, .long x10), (12, .int x12), (13, .int x13), (14, .int x14)]) (st' := [.int x5, .int v8, .int x12]) [.iload 5] (by decide +kernel) rfl ?_
  refine zV_icmp_ne (tgt := 158) (off := 7) (by decide +kernel) (by decide) (fun q => ?_) (fun q => ?_)
  · replace h := zif_neg q h
    clear q
    refine zV_blk (pc' := 159) (lo' := [(15, .long (t0 + (t1 : Int32).toInt64)), (0, .ref a0), (1, .int x1), (2, .int x2), (5, .int x5), (6, .int x6), (7, .int x7), (8, .int x8), (9, .int x9), (10, .long x10), (12, .int x12), (13, .int x13), (14, .int x14)]) (st' := [.int 0, .int x12]) [.iconst 0] (by decide +kernel) rfl ?_
    refine zV_pick (lo2 := [(0, .ref a0), (1, .int x1), (2, .int x2), (5, .int x5), (6, .int x6), (7, .int x7), (8, .int x8), (9, .int x9), (10, .long x10), (13, .int x13), (14, .int x14)]) [1, 2, 3, 4, 5, 6, 7, 8, 9, 11, 12] rfl ?_
    exact ck_timesOnWeekday_159 s0 D cB cI cJ cD n x0 x1 x2 x5 x6 x7 x8 x9 x10 x13 x14 x12 0 a0 ⟨b1, b2, b3, hc4, ⟨b9, hc10, hb11⟩, hc6, hc7⟩ h hL83 hQ
  · replace h := zif_pos q h
    clear q
    refine zV_blk (pc' := 155) (lo' := [(15, .long (t0 + (t1 : Int32).toInt64)), (0, .ref a0), (1, .int x1), (2, .int x2), (5, .int x5), (6, .int x6), (7, .int x7), (8, .int x8), (9, .int x9), (10, .long x10), (12, .int x12), (13, .int x13), (14, .int x14)]) (st' := [.int 1, .int x12]) [.iconst 1] (by decide +kernel) rfl ?_
    refine zV_goto (tgt := 159) (off := 4) (by decide +kernel) (by decide) ?_
    refine zV_pick (lo2 := [(0, .ref a0), (1, .int x1), (2, .int x2), (5, .int x5), (6, .int x6), (7, .int x7), (8, .int x8), (9, .int x9), (10, .long x10), (13, .int x13), (14, .int x14)]) [1, 2, 3, 4, 5, 6, 7, 8, 9, 11, 12] rfl ?_
    exact ck_timesOnWeekday_159 s0 D cB cI cJ cD n x0 x1 x2 x5 x6 x7 x8 x9 x10 x13 x14 x12 1 a0 ⟨b1, b2, b3, hc4, ⟨b9, hc10, hb11⟩, hc6, hc7⟩ h hL83 hQ
def k_timesOnWeekday_120 (n : Nat) (x0 : vDes) (x1 : Int32) (x2 : Int32) (x5 : Int32) (x6 : Int32) (x7 : Int32) (x8 : Int32) (x9 : Int32) (x10 : Int64) (x12 : Int32) (x13 : Int32) (x14 : Int32) : Option ((Int64 × Int32 × Int32) ⊕ (Int32)) := (if (x14 : Int32) = (0 : Int32) then (k_timesOnWeekday_134 n x0 x1 x2 x5 x6 x7 x8 x9 x10 x12 x13 x14 x10 x6) else (k_timesOnWeekday_134 n x0 x1 x2 x5 x6 x7 x8 x9 x10 x12 x13 x14 x10 x7))
set_option maxHeartbeats 4000000 in
set_option maxRecDepth 100000 in
theorem ck_timesOnWeekday_120 (s0 : State) (D : va_G) (cB cI cJ cD : ClassId) (n : Nat) (x0 : vDes) (x1 : Int32) (x2 : Int32) (x5 : Int32) (x6 : Int32) (x7 : Int32) (x8 : Int32) (x9 : Int32) (x10 : Int64) (x12 : Int32) (x13 : Int32) (x14 : Int32) (a0 : Nat) {x : (Int64 × Int32 × Int32) ⊕ (Int32)} {hi hm : zHp} {nx : Nat} {Q : Option Value → zHp → zHp → Nat → Prop} (ho0 : iDes cI hi a0 x0) (h : k_timesOnWeekday_120 n x0 x1 x2 x5 x6 x7 x8 x9 x10 x12 x13 x14 = some x) (hL83 : ∀ s : Int64 × Int32 × Int32, x = (.inl s) → zV s0 D (zty cB cI cJ cD) yX0_timesOnWeekday cX0_timesOnWeekday 17 (some .int) 3 67 0 0 83 [(0, .ref a0), (1, .int x1), (2, .int x2), (5, .int x5), (6, .int x6), (7, .int x7), (8, .int x8), (9, .int x9), (10, .long s.1), (12, .int s.2.1), (13, .int s.2.2)] [] hi hm nx Q) (hQ : ∀ r : Int32, x = (.inr r) → Q (some (.int r)) hi hm nx) : zV s0 D (zty cB cI cJ cD) yX0_timesOnWeekday cX0_timesOnWeekday 17 (some .int) 3 67 0 0 120 [(0, .ref a0), (1, .int x1), (2, .int x2), (5, .int x5), (6, .int x6), (7, .int x7), (8, .int x8), (9, .int x9), (10, .long x10), (12, .int x12), (13, .int x13), (14, .int x14)] [] hi hm nx Q := by
  unfold k_timesOnWeekday_120 at h
  refine zV_blk (pc' := 124) (lo' := [(0, .ref a0), (1, .int x1), (2, .int x2), (5, .int x5), (6, .int x6), (7, .int x7), (8, .int x8), (9, .int x9), (10, .long x10), (12, .int x12), (13, .int x13), (14, .int x14)]) (st' := [.int x14, .long x10]) [.lload 10, .iload 14] (by decide +kernel) rfl ?_
  refine zV_if_eq (tgt := 132) (off := 8) (by decide +kernel) (by decide) (fun q => ?_) (fun q => ?_)
  · replace h := zif_pos q h
    clear q
    refine zV_blk (pc' := 134) (lo' := [(0, .ref a0), (1, .int x1), (2, .int x2), (5, .int x5), (6, .int x6), (7, .int x7), (8, .int x8), (9, .int x9), (10, .long x10), (12, .int x12), (13, .int x13), (14, .int x14)]) (st' := [.int x6, .long x10]) [.iload 6] (by decide +kernel) rfl ?_
    refine zV_pick (lo2 := [(0, .ref a0), (1, .int x1), (2, .int x2), (5, .int x5), (6, .int x6), (7, .int x7), (8, .int x8), (9, .int x9), (10, .long x10), (12, .int x12), (13, .int x13), (14, .int x14)]) [0, 1, 2, 3, 4, 5, 6, 7, 8, 9, 10, 11] rfl ?_
    exact ck_timesOnWeekday_134 s0 D cB cI cJ cD n x0 x1 x2 x5 x6 x7 x8 x9 x10 x12 x13 x14 x10 x6 a0 ho0 h hL83 hQ
  · replace h := zif_neg q h
    clear q
    refine zV_blk (pc' := 129) (lo' := [(0, .ref a0), (1, .int x1), (2, .int x2), (5, .int x5), (6, .int x6), (7, .int x7), (8, .int x8), (9, .int x9), (10, .long x10), (12, .int x12), (13, .int x13), (14, .int x14)]) (st' := [.int x7, .long x10]) [.iload 7] (by decide +kernel) rfl ?_
    refine zV_goto (tgt := 134) (off := 5) (by decide +kernel) (by decide) ?_
    refine zV_pick (lo2 := [(0, .ref a0), (1, .int x1), (2, .int x2), (5, .int x5), (6, .int x6), (7, .int x7), (8, .int x8), (9, .int x9), (10, .long x10), (12, .int x12), (13, .int x13), (14, .int x14)]) [0, 1, 2, 3, 4, 5, 6, 7, 8, 9, 10, 11] rfl ?_
    exact ck_timesOnWeekday_134 s0 D cB cI cJ cD n x0 x1 x2 x5 x6 x7 x8 x9 x10 x12 x13 x14 x10 x7 a0 ho0 h hL83 hQ
def k_timesOnWeekday_83 (n : Nat) (x0 : vDes) (x1 : Int32) (x2 : Int32) (x5 : Int32) (x6 : Int32) (x7 : Int32) (x8 : Int32) (x9 : Int32) (s : Int64 × Int32 × Int32) : Option ((Int64 × Int32 × Int32) ⊕ (Int32)) := (if (x2 : Int32) ≤ (s.2.2 : Int32) then some (.inr s.2.1) else (d_isLeap n x0.2.1 (x1 + s.2.2)).bind (fun v8 => (if v8 = true then (if (x9 : Int32) = (0 : Int32) then (k_timesOnWeekday_162 n x0 x1 x2 x5 x6 x7 x8 x9 s.1 s.2.1 s.2.2 (zb v8) ) else (k_timesOnWeekday_120 n x0 x1 x2 x5 x6 x7 x8 x9 s.1 s.2.1 s.2.2 (zb v8) )) else (if (x8 : Int32) = (0 : Int32) then (k_timesOnWeekday_162 n x0 x1 x2 x5 x6 x7 x8 x9 s.1 s.2.1 s.2.2 (zb v8) ) else (k_timesOnWeekday_120 n x0 x1 x2 x5 x6 x7 x8 x9 s.1 s.2.1 s.2.2 (zb v8) )))))
set_option maxHeartbeats 4000000 in
set_option maxRecDepth 100000 in
theorem ck_timesOnWeekday_83 (s0 : State) (D : va_G) (cB cI cJ cD : ClassId) (n : Nat) (x0 : vDes) (x1 : Int32) (x2 : Int32) (x5 : Int32) (x6 : Int32) (x7 : Int32) (x8 : Int32) (x9 : Int32) (a0 : Nat) (s : Int64 × Int32 × Int32) {x : (Int64 × Int32 × Int32) ⊕ (Int32)} {hi hm : zHp} {nx : Nat} {Q : Option Value → zHp → zHp → Nat → Prop} (ho0 : iDes cI hi a0 x0) (h : k_timesOnWeekday_83 n x0 x1 x2 x5 x6 x7 x8 x9 s = some x) (hL83 : ∀ s : Int64 × Int32 × Int32, x = (.inl s) → zV s0 D (zty cB cI cJ cD) yX0_timesOnWeekday cX0_timesOnWeekday 17 (some .int) 3 67 0 0 83 [(0, .ref a0), (1, .int x1), (2, .int x2), (5, .int x5), (6, .int x6), (7, .int x7), (8, .int x8), (9, .int x9), (10, .long s.1), (12, .int s.2.1), (13, .int s.2.2)] [] hi hm nx Q) (hQ : ∀ r : Int32, x = (.inr r) → Q (some (.int r)) hi hm nx) : zV s0 D (zty cB cI cJ cD) yX0_timesOnWeekday cX0_timesOnWeekday 17 (some .int) 3 67 0 0 83 [(0, .ref a0), (1, .int x1), (2, .int x2), (5, .int x5), (6, .int x6), (7, .int x7), (8, .int x8), (9, .int x9), (10, .long s.1), (12, .int s.2.1), (13, .int s.2.2)] [] hi hm nx Q := by
  unfold k_timesOnWeekday_83 at h
  refine zV_blk (pc' := 86) (lo' := [(0, .ref a0), (1, .int x1), (2, .int x2), (5, .int x5), (6, .int x6), (7, .int x7), (8, .int x8), (9, .int x9), (10, .long s.1), (12, .int s.2.1), (13, .int s.2.2)]) (st' := [.int x2, .int s.2.2]) [.iload 13, .iload_n 2] (by decide +kernel) rfl ?_
  refine zV_icmp_ge (tgt := 183) (off := 97) (by decide +kernel) (by decide) (fun q => ?_) (fun q => ?_)
  · replace h := zif_pos q h
    clear q
    refine zV_blk (pc' := 185) (lo' := [(0, .ref a0), (1, .int x1), (2, .int x2), (5, .int x5), (6, .int x6), (7, .int x7), (8, .int x8), (9, .int x9), (10, .long s.1), (12, .int s.2.1), (13, .int s.2.2)]) (st' := [.int s.2.1]) [.iload 12] (by decide +kernel) rfl ?_
    obtain rfl := Option.some.inj h
    exact zV_iret rfl (by decide +kernel) (hQ _ rfl)
  · replace h := zif_neg q h
    clear q
    refine zV_blk (pc' := 90) (lo' := [(0, .ref a0), (1, .int x1), (2, .int x2), (5, .int x5), (6, .int x6), (7, .int x7), (8, .int x8), (9, .int x9), (10, .long s.1), (12, .int s.2.1), (13, .int s.2.2)]) (st' := [.ref a0]) [.aload_n 0] (by decide +kernel) rfl ?_
    obtain ⟨b1, b2, b3, hc4, hc5, hc6, hc7⟩ := ho0
    refine zV_get (ci := 0) (idx := 15) (k := 1) (N := 3) (fs := [.ref b1, .ref b2, .ref b3]) (v := .ref b2) (Or.inl hc4) rfl z_in0 (by decide) (zT_mem 565 (by decide +kernel) rfl) rfl (by decide +kernel) ?_
    refine zV_blk (pc' := 97) (lo' := [(0, .ref a0), (1, .int x1), (2, .int x2), (5, .int x5), (6, .int x6), (7, .int x7), (8, .int x8), (9, .int x9), (10, .long s.1), (12, .int s.2.1), (13, .int s.2.2)]) (st' := [.int (x1 + s.2.2), .ref b2]) [.iload_n 1, .iload 13, .iadd] (by decide +kernel) rfl ?_
    obtain ⟨v8, hv8, h⟩ := zbind h
    refine dc_isLeap s0 D cB cI cJ cD (idx := 70) n x0.2.1 (x1 + s.2.2) b2 v8 hv8 hc6 (zT_mem 1045 (by decide +kernel) rfl) (rest := []) rfl (Nat.le_of_ble_eq_true rfl) ⟨by decide, by decide⟩ (by decide +kernel) ?_
    refine zV_eq (st2 := [.int (zb v8)]) rfl rfl rfl rfl ?_
    refine zV_blk (pc' := 104) (lo' := [(14, .int (zb v8)), (0, .ref a0), (1, .int x1), (2, .int x2), (5, .int x5), (6, .int x6), (7, .int x7), (8, .int x8), (9, .int x9), (10, .long s.1), (12, .int s.2.1), (13, .int s.2.2)]) (st' := [.int (zb v8)]) [.istore 14, .iload 14] (by decide +kernel) rfl ?_
    refine zV_bif_eq (tgt := 115) (off := 11) (by decide +kernel) (by decide) (fun q => ?_) (fun q => ?_)
    · replace h := zif_neg q h
      clear q
      refine zV_blk (pc' := 117) (lo' := [(14, .int (zb v8)), (0, .ref a0), (1, .int x1), (2, .int x2), (5, .int x5), (6, .int x6), (7, .int x7), (8, .int x8), (9, .int x9), (10, .long s.1), (12, .int s.2.1), (13, .int s.2.2)]) (st' := [.int x8]) [.iload 8] (by decide +kernel) rfl ?_
      refine zV_if_eq (tgt := 162) (off := 45) (by decide +kernel) (by decide) (fun q => ?_) (fun q => ?_)
      · replace h := zif_pos q h
        clear q
        refine zV_pick (lo2 := [(0, .ref a0), (1, .int x1), (2, .int x2), (5, .int x5), (6, .int x6), (7, .int x7), (8, .int x8), (9, .int x9), (10, .long s.1), (12, .int s.2.1), (13, .int s.2.2), (14, .int (zb v8))]) [1, 2, 3, 4, 5, 6, 7, 8, 9, 10, 11, 0] rfl ?_
        exact ck_timesOnWeekday_162 s0 D cB cI cJ cD n x0 x1 x2 x5 x6 x7 x8 x9 s.1 s.2.1 s.2.2 (zb v8)  a0 ⟨b1, b2, b3, hc4, hc5, hc6, hc7⟩ h hL83 hQ
      · replace h := zif_neg q h
        clear q
        refine zV_pick (lo2 := [(0, .ref a0), (1, .int x1), (2, .int x2), (5, .int x5), (6, .int x6), (7, .int x7), (8, .int x8), (9, .int x9), (10, .long s.1), (12, .int s.2.1), (13, .int s.2.2), (14, .int (zb v8))]) [1, 2, 3, 4, 5, 6, 7, 8, 9, 10, 11, 0] rfl ?_
        exact ck_timesOnWeekday_120 s0 D cB cI cJ cD n x0 x1 x2 x5 x6 x7 x8 x9 s.1 s.2.1 s.2.2 (zb v8)  a0 ⟨b1, b2, b3, hc4, hc5, hc6, hc7⟩ h hL83 hQ
    · replace h := zif_pos q h
      clear q
      refine zV_blk (pc' := 109) (lo' := [(14, .int (zb v8)), (0, .ref a0), (1, .int x1), (2, .int x2), (5, .int x5), (6, .int x6), (7, .int x7), (8, .int x8), (9, .int x9), (10, .long s.1), (12, .int s.2.1), (13, .int s.2.2)]) (st' := [.int x9]) [.iload 9] (by decide +kernel) rfl ?_
      refine zV_if_eq (tgt := 162) (off := 53) (by decide +kernel) (by decide) (fun q => ?_) (fun q => ?_)
      · replace h := zif_pos q h
        clear q
        refine zV_pick (lo2 := [(0, .ref a0), (1, .int x1), (2, .int x2), (5, .int x5), (6, .int x6), (7, .int x7), (8, .int x8), (9, .int x9), (10, .long s.1), (12, .int s.2.1), (13, .int s.2.2), (14, .int (zb v8))]) [1, 2, 3, 4, 5, 6, 7, 8, 9, 10, 11, 0] rfl ?_
        exact ck_timesOnWeekday_162 s0 D cB cI cJ cD n x0 x1 x2 x5 x6 x7 x8 x9 s.1 s.2.1 s.2.2 (zb v8)  a0 ⟨b1, b2, b3, hc4, hc5, hc6, hc7⟩ h hL83 hQ
      · replace h := zif_neg q h
        clear q
        refine zV_goto (tgt := 120) (off := 8) (by decide +kernel) (by decide) ?_
        refine zV_pick (lo2 := [(0, .ref a0), (1, .int x1), (2, .int x2), (5, .int x5), (6, .int x6), (7, .int x7), (8, .int x8), (9, .int x9), (10, .long s.1), (12, .int s.2.1), (13, .int s.2.2), (14, .int (zb v8))]) [1, 2, 3, 4, 5, 6, 7, 8, 9, 10, 11, 0] rfl ?_
        exact ck_timesOnWeekday_120 s0 D cB cI cJ cD n x0 x1 x2 x5 x6 x7 x8 x9 s.1 s.2.1 s.2.2 (zb v8)  a0 ⟨b1, b2, b3, hc4, hc5, hc6, hc7⟩ h hL83 hQ
theorem ck_timesOnWeekday_83L (s0 : State) (D : va_G) (cB cI cJ cD : ClassId) (n : Nat) (x0 : vDes) (x1 : Int32) (x2 : Int32) (x5 : Int32) (x6 : Int32) (x7 : Int32) (x8 : Int32) (x9 : Int32) (a0 : Nat) : ∀ (k : Nat) (s : Int64 × Int32 × Int32) {hi hm : zHp} {nx : Nat} {Q : Option Value → zHp → zHp → Nat → Prop} (ho0 : iDes cI hi a0 x0) {x : Int32} (_ : zloop (k_timesOnWeekday_83 n x0 x1 x2 x5 x6 x7 x8 x9) k s = some x) (hQ : ∀ r : Int32, x = r → Q (some (.int r)) hi hm nx), zV s0 D (zty cB cI cJ cD) yX0_timesOnWeekday cX0_timesOnWeekday 17 (some .int) 3 67 0 0 83 [(0, .ref a0), (1, .int x1), (2, .int x2), (5, .int x5), (6, .int x6), (7, .int x7), (8, .int x8), (9, .int x9), (10, .long s.1), (12, .int s.2.1), (13, .int s.2.2)] [] hi hm nx Q
  | 0, s, _, _, _, _, _, _, h, _ => by cases h
  | k + 1, s, hi, hm, nx, Q, ho0, x, h, hQ => by
    obtain ⟨z, hz, h1, h2⟩ := zloop_succ h
    exact ck_timesOnWeekday_83 s0 D cB cI cJ cD n x0 x1 x2 x5 x6 x7 x8 x9 a0 s ho0 hz (fun s' hs => ck_timesOnWeekday_83L s0 D cB cI cJ cD n x0 x1 x2 x5 x6 x7 x8 x9 a0 k s' ho0 (h1 s' hs) hQ) (fun r hr => hQ r (h2 _ hr).symm)
def k_timesOnWeekday_68 (n : Nat) (x0 : vDes) (x1 : Int32) (x2 : Int32) (x5 : Int32) (x6 : Int32) (x7 : Int32) (x8 : Int32) (t0 : Int32) : Option (Int32) := (k_startOf n x0 x1).bind (fun v1 => (zloop (k_timesOnWeekday_83 n x0 x1 x2 x5 x6 x7 x8 t0) n (v1, 0, 0)))
set_option maxHeartbeats 4000000 in
set_option maxRecDepth 100000 in
theorem ck_timesOnWeekday_68 (s0 : State) (D : va_G) (cB cI cJ cD : ClassId) (n : Nat) (x0 : vDes) (x1 : Int32) (x2 : Int32) (x5 : Int32) (x6 : Int32) (x7 : Int32) (x8 : Int32) (t0 : Int32) (a0 : Nat) {x : Int32} {hi hm : zHp} {nx : Nat} {Q : Option Value → zHp → zHp → Nat → Prop} (ho0 : iDes cI hi a0 x0) (h : k_timesOnWeekday_68 n x0 x1 x2 x5 x6 x7 x8 t0 = some x) (hQ : ∀ r : Int32, x = r → Q (some (.int r)) hi hm nx) : zV s0 D (zty cB cI cJ cD) yX0_timesOnWeekday cX0_timesOnWeekday 17 (some .int) 3 67 0 0 68 [(0, .ref a0), (1, .int x1), (2, .int x2), (5, .int x5), (6, .int x6), (7, .int x7), (8, .int x8)] [.int t0] hi hm nx Q := by
  unfold k_timesOnWeekday_68 at h
  refine zV_blk (pc' := 72) (lo' := [(9, .int t0), (0, .ref a0), (1, .int x1), (2, .int x2), (5, .int x5), (6, .int x6), (7, .int x7), (8, .int x8)]) (st' := [.int x1, .ref a0]) [.istore 9, .aload_n 0, .iload_n 1] (by decide +kernel) rfl ?_
  obtain ⟨v1, hv1, h⟩ := zbind h
  obtain ⟨b2, b3, b4, hc5, hc6, hc7, hc8⟩ := ho0
  refine zV_roV (idx := 47) (rest := []) (fs := [.ref b2, .ref b3, .ref b4]) (ci := 0) (fun Q2 hQ2 => ck_startOf s0 D cB cI cJ cD n x0 x1 a0 v1 hv1 ⟨b2, b3, b4, hc5, hc6, hc7, hc8⟩ hQ2) oX0_startOf (Or.inl hc5) rfl (zT_mem 718 (by decide +kernel) rfl) (zT_mem 719 (by decide +kernel) rfl) (zT_mem 720 (by decide +kernel) rfl) rfl rfl (Nat.le_of_ble_eq_true rfl) ⟨by decide, by decide⟩ (by decide +kernel) ?_
  refine zV_eq (st2 := [.long v1]) rfl rfl rfl rfl ?_
  refine zV_blk (pc' := 83) (lo' := [(13, .int 0), (12, .int 0), (10, .long v1), (9, .int t0), (0, .ref a0), (1, .int x1), (2, .int x2), (5, .int x5), (6, .int x6), (7, .int x7), (8, .int x8)]) (st' := []) [.lstore 10, .iconst 0, .istore 12, .iconst 0, .istore 13] (by decide +kernel) rfl ?_
  refine zV_pick (lo2 := [(0, .ref a0), (1, .int x1), (2, .int x2), (5, .int x5), (6, .int x6), (7, .int x7), (8, .int x8), (9, .int t0), (10, .long v1), (12, .int 0), (13, .int 0)]) [4, 5, 6, 7, 8, 9, 10, 3, 2, 1, 0] rfl ?_
  exact ck_timesOnWeekday_83L s0 D cB cI cJ cD n x0 x1 x2 x5 x6 x7 x8 t0 a0 n (v1, 0, 0) ⟨b2, b3, b4, hc5, hc6, hc7, hc8⟩ h hQ
def k_timesOnWeekday_47 (n : Nat) (x0 : vDes) (x1 : Int32) (x2 : Int32) (x3 : Int32) (x4 : Int32) (x5 : Int32) (x6 : Int32) (x7 : Int32) (t0 : Int32) : Option (Int32) := (k_monthDays x0.1 x3 1).bind (fun v8 => (if (v8 : Int32) ≤ (x4 : Int32) then (k_timesOnWeekday_68 n x0 x1 x2 x5 x6 x7 t0 0) else (k_timesOnWeekday_68 n x0 x1 x2 x5 x6 x7 t0 1)))
set_option maxHeartbeats 4000000 in
set_option maxRecDepth 100000 in
theorem ck_timesOnWeekday_47 (s0 : State) (D : va_G) (cB cI cJ cD : ClassId) (n : Nat) (x0 : vDes) (x1 : Int32) (x2 : Int32) (x3 : Int32) (x4 : Int32) (x5 : Int32) (x6 : Int32) (x7 : Int32) (t0 : Int32) (a0 : Nat) {x : Int32} {hi hm : zHp} {nx : Nat} {Q : Option Value → zHp → zHp → Nat → Prop} (ho0 : iDes cI hi a0 x0) (h : k_timesOnWeekday_47 n x0 x1 x2 x3 x4 x5 x6 x7 t0 = some x) (hQ : ∀ r : Int32, x = r → Q (some (.int r)) hi hm nx) : zV s0 D (zty cB cI cJ cD) yX0_timesOnWeekday cX0_timesOnWeekday 17 (some .int) 3 67 0 0 47 [(0, .ref a0), (1, .int x1), (2, .int x2), (3, .int x3), (4, .int x4), (5, .int x5), (6, .int x6), (7, .int x7)] [.int t0] hi hm nx Q := by
  unfold k_timesOnWeekday_47 at h
  refine zV_blk (pc' := 52) (lo' := [(8, .int t0), (0, .ref a0), (1, .int x1), (2, .int x2), (3, .int x3), (4, .int x4), (5, .int x5), (6, .int x6), (7, .int x7)]) (st' := [.ref a0, .int x4]) [.istore 8, .iload 4, .aload_n 0] (by decide +kernel) rfl ?_
  obtain ⟨b1, b2, b3, hc4, hc5, hc6, hc7⟩ := ho0
  refine zV_get (ci := 0) (idx := 9) (k := 0) (N := 3) (fs := [.ref b1, .ref b2, .ref b3]) (v := .ref b1) (Or.inl hc4) rfl z_in0 (by decide) (zT_mem 563 (by decide +kernel) rfl) rfl (by decide +kernel) ?_
  refine zV_blk (pc' := 57) (lo' := [(8, .int t0), (0, .ref a0), (1, .int x1), (2, .int x2), (3, .int x3), (4, .int x4), (5, .int x5), (6, .int x6), (7, .int x7)]) (st' := [.int 1, .int x3, .ref b1, .int x4]) [.iload_n 3, .iconst 1] (by decide +kernel) rfl ?_
  obtain ⟨v8, hv8, h⟩ := zbind h
  obtain ⟨b9, hc10, hb11⟩ := hc5
  refine zV_roV (idx := 97) (rest := [.int x4]) (fs := [.int x0.1.1, .int x0.1.2.1, .ref b9, .int x0.1.2.2.2.1, .int x0.1.2.2.2.2.1, .int x0.1.2.2.2.2.2]) (ci := 3) (fun Q2 hQ2 => ck_monthDays s0 D cB cI cJ cD x0.1 x3 1 b1 v8 hv8 ⟨b9, hc10, hb11⟩ hQ2) oX3_monthDays (Or.inl hc10) rfl (zT_mem 1097 (by decide +kernel) rfl) (zT_mem 673 (by decide +kernel) rfl) (zT_mem 674 (by decide +kernel) rfl) rfl rfl (Nat.le_of_ble_eq_true rfl) ⟨by decide, by decide⟩ (by decide +kernel) ?_
  refine zV_eq (st2 := [.int v8, .int x4]) rfl rfl rfl rfl ?_
  refine zV_icmp_ge (tgt := 67) (off := 7) (by decide +kernel) (by decide) (fun q => ?_) (fun q => ?_)
  · replace h := zif_pos q h
    clear q
    refine zV_blk (pc' := 68) (lo' := [(8, .int t0), (0, .ref a0), (1, .int x1), (2, .int x2), (3, .int x3), (4, .int x4), (5, .int x5), (6, .int x6), (7, .int x7)]) (st' := [.int 0]) [.iconst 0] (by decide +kernel) rfl ?_
    refine zV_pick (lo2 := [(0, .ref a0), (1, .int x1), (2, .int x2), (5, .int x5), (6, .int x6), (7, .int x7), (8, .int t0)]) [1, 2, 3, 6, 7, 8, 0] rfl ?_
    exact ck_timesOnWeekday_68 s0 D cB cI cJ cD n x0 x1 x2 x5 x6 x7 t0 0 a0 ⟨b1, b2, b3, hc4, ⟨b9, hc10, hb11⟩, hc6, hc7⟩ h hQ
  · replace h := zif_neg q h
    clear q
    refine zV_blk (pc' := 64) (lo' := [(8, .int t0), (0, .ref a0), (1, .int x1), (2, .int x2), (3, .int x3), (4, .int x4), (5, .int x5), (6, .int x6), (7, .int x7)]) (st' := [.int 1]) [.iconst 1] (by decide +kernel) rfl ?_
    refine zV_goto (tgt := 68) (off := 4) (by decide +kernel) (by decide) ?_
    refine zV_pick (lo2 := [(0, .ref a0), (1, .int x1), (2, .int x2), (5, .int x5), (6, .int x6), (7, .int x7), (8, .int t0)]) [1, 2, 3, 6, 7, 8, 0] rfl ?_
    exact ck_timesOnWeekday_68 s0 D cB cI cJ cD n x0 x1 x2 x5 x6 x7 t0 1 a0 ⟨b1, b2, b3, hc4, ⟨b9, hc10, hb11⟩, hc6, hc7⟩ h hQ
def k_timesOnWeekday (n : Nat) (x0 : vDes) (x1 : Int32) (x2 : Int32) (x3 : Int32) (x4 : Int32) (x5 : Int32) : Option (Int32) := (k_monthOffset n x0.1 x3 0).bind (fun v8 => (k_monthOffset n x0.1 x3 1).bind (fun v12 => (k_monthDays x0.1 x3 0).bind (fun v13 => (if (v13 : Int32) ≤ (x4 : Int32) then (k_timesOnWeekday_47 n x0 x1 x2 x3 x4 x5 (v8 + x4) (v12 + x4) 0) else (k_timesOnWeekday_47 n x0 x1 x2 x3 x4 x5 (v8 + x4) (v12 + x4) 1)))))
theorem oX0_timesOnWeekday : zO yX0_timesOnWeekday cX0_timesOnWeekday 17 (some .int) 5 := ⟨zT_mem 1247 (by decide +kernel) rfl, zT_mem 105 (by decide +kernel) rfl, by decide +kernel, by decide +kernel, by decide +kernel⟩
set_option maxHeartbeats 4000000 in
set_option maxRecDepth 100000 in
theorem ck_timesOnWeekday (s0 : State) (D : va_G) (cB cI cJ cD : ClassId) (n : Nat) (x0 : vDes) (x1 : Int32) (x2 : Int32) (x3 : Int32) (x4 : Int32) (x5 : Int32) (a0 : Nat) (x : Int32) (h : k_timesOnWeekday n x0 x1 x2 x3 x4 x5 = some x) {hi hm : zHp} {nx : Nat} {Q : Option Value → zHp → zHp → Nat → Prop} (ho0 : iDes cI hi a0 x0) (hQ0 : Q (some (.int x)) hi hm nx) : zM s0 D (zty cB cI cJ cD) yX0_timesOnWeekday cX0_timesOnWeekday 17 (some .int) 3 67 0 0 [.ref a0, .int x1, .int x2, .int x3, .int x4, .int x5] hi hm nx Q := by
  have hQ : ∀ r : Int32, x = r → Q (some (.int r)) hi hm nx := fun r hr => by subst hr; exact hQ0
  clear hQ0
  refine zM_of (by decide +kernel) (Nat.le_of_ble_eq_true rfl) ?_
  unfold k_timesOnWeekday at h
  refine zV_eq (lo2 := [(0, .ref a0), (1, .int x1), (2, .int x2), (3, .int x3), (4, .int x4), (5, .int x5)]) rfl rfl rfl rfl ?_
  refine zV_blk (pc' := 1) (lo' := [(0, .ref a0), (1, .int x1), (2, .int x2), (3, .int x3), (4, .int x4), (5, .int x5)]) (st' := [.ref a0]) [.aload_n 0] (by decide +kernel) rfl ?_
  obtain ⟨b1, b2, b3, hc4, hc5, hc6, hc7⟩ := ho0
  refine zV_get (ci := 0) (idx := 9) (k := 0) (N := 3) (fs := [.ref b1, .ref b2, .ref b3]) (v := .ref b1) (Or.inl hc4) rfl z_in0 (by decide) (zT_mem 563 (by decide +kernel) rfl) rfl (by decide +kernel) ?_
  refine zV_blk (pc' := 6) (lo' := [(0, .ref a0), (1, .int x1), (2, .int x2), (3, .int x3), (4, .int x4), (5, .int x5)]) (st' := [.int 0, .int x3, .ref b1]) [.iload_n 3, .iconst 0] (by decide +kernel) rfl ?_
  obtain ⟨v8, hv8, h⟩ := zbind h
  obtain ⟨b9, hc10, hb11⟩ := hc5
  refine zV_roV (idx := 101) (rest := []) (fs := [.int x0.1.1, .int x0.1.2.1, .ref b9, .int x0.1.2.2.2.1, .int x0.1.2.2.2.2.1, .int x0.1.2.2.2.2.2]) (ci := 3) (fun Q2 hQ2 => ck_monthOffset s0 D cB cI cJ cD n x0.1 x3 0 b1 v8 hv8 ⟨b9, hc10, hb11⟩ hQ2) oX3_monthOffset (Or.inl hc10) rfl (zT_mem 1076 (by decide +kernel) rfl) (zT_mem 1077 (by decide +kernel) rfl) (zT_mem 1078 (by decide +kernel) rfl) rfl rfl (Nat.le_of_ble_eq_true rfl) ⟨by decide, by decide⟩ (by decide +kernel) ?_
  refine zV_eq (st2 := [.int v8]) rfl rfl rfl rfl ?_
  refine zV_blk (pc' := 15) (lo' := [(6, .int (v8 + x4)), (0, .ref a0), (1, .int x1), (2, .int x2), (3, .int x3), (4, .int x4), (5, .int x5)]) (st' := [.ref a0]) [.iload 4, .iadd, .istore 6, .aload_n 0] (by decide +kernel) rfl ?_
  refine zV_get (ci := 0) (idx := 9) (k := 0) (N := 3) (fs := [.ref b1, .ref b2, .ref b3]) (v := .ref b1) (Or.inl hc4) rfl z_in0 (by decide) (zT_mem 563 (by decide +kernel) rfl) rfl (by decide +kernel) ?_
  refine zV_blk (pc' := 20) (lo' := [(6, .int (v8 + x4)), (0, .ref a0), (1, .int x1), (2, .int x2), (3, .int x3), (4, .int x4), (5, .int x5)]) (st' := [.int 1, .int x3, .ref b1]) [.iload_n 3, .iconst 1] (by decide +kernel) rfl ?_
  obtain ⟨v12, hv12, h⟩ := zbind h
  refine zV_roV (idx := 101) (rest := []) (fs := [.int x0.1.1, .int x0.1.2.1, .ref b9, .int x0.1.2.2.2.1, .int x0.1.2.2.2.2.1, .int x0.1.2.2.2.2.2]) (ci := 3) (fun Q2 hQ2 => ck_monthOffset s0 D cB cI cJ cD n x0.1 x3 1 b1 v12 hv12 ⟨b9, hc10, hb11⟩ hQ2) oX3_monthOffset (Or.inl hc10) rfl (zT_mem 1076 (by decide +kernel) rfl) (zT_mem 1077 (by decide +kernel) rfl) (zT_mem 1078 (by decide +kernel) rfl) rfl rfl (Nat.le_of_ble_eq_true rfl) ⟨by decide, by decide⟩ (by decide +kernel) ?_
  refine zV_eq (st2 := [.int v12]) rfl rfl rfl rfl ?_
  refine zV_blk (pc' := 31) (lo' := [(7, .int (v12 + x4)), (6, .int (v8 + x4)), (0, .ref a0), (1, .int x1), (2, .int x2), (3, .int x3), (4, .int x4), (5, .int x5)]) (st' := [.ref a0, .int x4]) [.iload 4, .iadd, .istore 7, .iload 4, .aload_n 0] (by decide +kernel) rfl ?_
  refine zV_get (ci := 0) (idx := 9) (k := 0) (N := 3) (fs := [.ref b1, .ref b2, .ref b3]) (v := .ref b1) (Or.inl hc4) rfl z_in0 (by decide) (zT_mem 563 (by decide +kernel) rfl) rfl (by decide +kernel) ?_
  refine zV_blk (pc' := 36) (lo' := [(7, .int (v12 + x4)), (6, .int (v8 + x4)), (0, .ref a0), (1, .int x1), (2, .int x2), (3, .int x3), (4, .int x4), (5, .int x5)]) (st' := [.int 0, .int x3, .ref b1, .int x4]) [.iload_n 3, .iconst 0] (by decide +kernel) rfl ?_
  obtain ⟨v13, hv13, h⟩ := zbind h
  refine zV_roV (idx := 97) (rest := [.int x4]) (fs := [.int x0.1.1, .int x0.1.2.1, .ref b9, .int x0.1.2.2.2.1, .int x0.1.2.2.2.2.1, .int x0.1.2.2.2.2.2]) (ci := 3) (fun Q2 hQ2 => ck_monthDays s0 D cB cI cJ cD x0.1 x3 0 b1 v13 hv13 ⟨b9, hc10, hb11⟩ hQ2) oX3_monthDays (Or.inl hc10) rfl (zT_mem 1097 (by decide +kernel) rfl) (zT_mem 673 (by decide +kernel) rfl) (zT_mem 674 (by decide +kernel) rfl) rfl rfl (Nat.le_of_ble_eq_true rfl) ⟨by decide, by decide⟩ (by decide +kernel) ?_
  refine zV_eq (st2 := [.int v13, .int x4]) rfl rfl rfl rfl ?_
  refine zV_icmp_ge (tgt := 46) (off := 7) (by decide +kernel) (by decide) (fun q => ?_) (fun q => ?_)
  · replace h := zif_pos q h
    clear q
    refine zV_blk (pc' := 47) (lo' := [(7, .int (v12 + x4)), (6, .int (v8 + x4)), (0, .ref a0), (1, .int x1), (2, .int x2), (3, .int x3), (4, .int x4), (5, .int x5)]) (st' := [.int 0]) [.iconst 0] (by decide +kernel) rfl ?_
    refine zV_pick (lo2 := [(0, .ref a0), (1, .int x1), (2, .int x2), (3, .int x3), (4, .int x4), (5, .int x5), (6, .int (v8 + x4)), (7, .int (v12 + x4))]) [2, 3, 4, 5, 6, 7, 1, 0] rfl ?_
    exact ck_timesOnWeekday_47 s0 D cB cI cJ cD n x0 x1 x2 x3 x4 x5 (v8 + x4) (v12 + x4) 0 a0 ⟨b1, b2, b3, hc4, ⟨b9, hc10, hb11⟩, hc6, hc7⟩ h hQ
  · replace h := zif_neg q h
    clear q
    refine zV_blk (pc' := 43) (lo' := [(7, .int (v12 + x4)), (6, .int (v8 + x4)), (0, .ref a0), (1, .int x1), (2, .int x2), (3, .int x3), (4, .int x4), (5, .int x5)]) (st' := [.int 1]) [.iconst 1] (by decide +kernel) rfl ?_
    refine zV_goto (tgt := 47) (off := 4) (by decide +kernel) (by decide) ?_
    refine zV_pick (lo2 := [(0, .ref a0), (1, .int x1), (2, .int x2), (3, .int x3), (4, .int x4), (5, .int x5), (6, .int (v8 + x4)), (7, .int (v12 + x4))]) [2, 3, 4, 5, 6, 7, 1, 0] rfl ?_
    exact ck_timesOnWeekday_47 s0 D cB cI cJ cD n x0 x1 x2 x3 x4 x5 (v8 + x4) (v12 + x4) 1 a0 ⟨b1, b2, b3, hc4, ⟨b9, hc10, hb11⟩, hc6, hc7⟩ h hQ

def k_firstLeap_7 (n : Nat) (x0 : vLaw) (x1 : Int32) (s : Int32) : Option ((Int32) ⊕ (Int32)) := (if (x1 : Int32) ≤ (s : Int32) then some (.inr (-1)) else (d_isLeap n x0 s).bind (fun v1 => (if v1 = true then some (.inr s) else some (.inl (s + 1)))))
set_option maxHeartbeats 4000000 in
set_option maxRecDepth 100000 in
theorem ck_firstLeap_7 (s0 : State) (D : va_G) (cB cI cJ cD : ClassId) (n : Nat) (x0 : vLaw) (x1 : Int32) (a0 : Nat) (s : Int32) {x : (Int32) ⊕ (Int32)} {hi hm : zHp} {nx : Nat} {Q : Option Value → zHp → zHp → Nat → Prop} (ho0 : iLaw cI hi a0 x0) (h : k_firstLeap_7 n x0 x1 s = some x) (hL7 : ∀ s : Int32, x = (.inl s) → zV s0 D (zty cB cI cJ cD) yX11_firstLeap cX11_firstLeap 3 (some .int) 2 44 0 0 7 [(0, .ref a0), (1, .int x1), (2, .int s)] [] hi hm nx Q) (hQ : ∀ r : Int32, x = (.inr r) → Q (some (.int r)) hi hm nx) : zV s0 D (zty cB cI cJ cD) yX11_firstLeap cX11_firstLeap 3 (some .int) 2 44 0 0 7 [(0, .ref a0), (1, .int x1), (2, .int s)] [] hi hm nx Q := by
  unfold k_firstLeap_7 at h
  refine zV_blk (pc' := 9) (lo' := [(0, .ref a0), (1, .int x1), (2, .int s)]) (st' := [.int x1, .int s]) [.iload_n 2, .iload_n 1] (by decide +kernel) rfl ?_
  refine zV_icmp_ge (tgt := 28) (off := 19) (by decide +kernel) (by decide) (fun q => ?_) (fun q => ?_)
  · replace h := zif_pos q h
    clear q
    refine zV_blk (pc' := 29) (lo' := [(0, .ref a0), (1, .int x1), (2, .int s)]) (st' := [.int (-1)]) [.iconst (-1)] (by decide +kernel) rfl ?_
    obtain rfl := Option.some.inj h
    exact zV_iret rfl (by decide +kernel) (hQ _ rfl)
  · replace h := zif_neg q h
    clear q
    refine zV_blk (pc' := 14) (lo' := [(0, .ref a0), (1, .int x1), (2, .int s)]) (st' := [.int s, .ref a0]) [.aload_n 0, .iload_n 2] (by decide +kernel) rfl ?_
    obtain ⟨v1, hv1, h⟩ := zbind h
    refine dc_isLeap s0 D cB cI cJ cD (idx := 223) n x0 s a0 v1 hv1 ho0 (zT_mem 1014 (by decide +kernel) rfl) (rest := []) rfl (Nat.le_of_ble_eq_true rfl) ⟨by decide, by decide⟩ (by decide +kernel) ?_
    refine zV_eq (st2 := [.int (zb v1)]) rfl rfl rfl rfl ?_
    refine zV_bif_eq (tgt := 22) (off := 5) (by decide +kernel) (by decide) (fun q => ?_) (fun q => ?_)
    · replace h := zif_neg q h
      clear q
      refine zV_blk (pc' := 25) (lo' := [(2, .int (s + 1)), (0, .ref a0), (1, .int x1)]) (st' := []) [.iinc 2 1] (by decide +kernel) rfl ?_
      refine zV_goto (tgt := 7) (off := -18) (by decide +kernel) (by decide) ?_
      obtain rfl := Option.some.inj h
      refine zV_pick (lo2 := [(0, .ref a0), (1, .int x1), (2, .int (s + 1))]) [1, 2, 0] rfl ?_
      exact hL7 _ rfl
    · replace h := zif_pos q h
      clear q
      refine zV_blk (pc' := 21) (lo' := [(0, .ref a0), (1, .int x1), (2, .int s)]) (st' := [.int s]) [.iload_n 2] (by decide +kernel) rfl ?_
      obtain rfl := Option.some.inj h
      exact zV_iret rfl (by decide +kernel) (hQ _ rfl)
theorem ck_firstLeap_7L (s0 : State) (D : va_G) (cB cI cJ cD : ClassId) (n : Nat) (x0 : vLaw) (x1 : Int32) (a0 : Nat) : ∀ (k : Nat) (s : Int32) {hi hm : zHp} {nx : Nat} {Q : Option Value → zHp → zHp → Nat → Prop} (ho0 : iLaw cI hi a0 x0) {x : Int32} (_ : zloop (k_firstLeap_7 n x0 x1) k s = some x) (hQ : ∀ r : Int32, x = r → Q (some (.int r)) hi hm nx), zV s0 D (zty cB cI cJ cD) yX11_firstLeap cX11_firstLeap 3 (some .int) 2 44 0 0 7 [(0, .ref a0), (1, .int x1), (2, .int s)] [] hi hm nx Q
  | 0, s, _, _, _, _, _, _, h, _ => by cases h
  | k + 1, s, hi, hm, nx, Q, ho0, x, h, hQ => by
    obtain ⟨z, hz, h1, h2⟩ := zloop_succ h
    exact ck_firstLeap_7 s0 D cB cI cJ cD n x0 x1 a0 s ho0 hz (fun s' hs => ck_firstLeap_7L s0 D cB cI cJ cD n x0 x1 a0 k s' ho0 (h1 s' hs) hQ) (fun r hr => hQ r (h2 _ hr).symm)
def k_firstLeap (n : Nat) (x0 : vLaw) : Option (Int32) := (d_cycle x0).bind (fun v1 => (zloop (k_firstLeap_7 n x0 v1) n 0))
theorem oX11_firstLeap : zO yX11_firstLeap cX11_firstLeap 3 (some .int) 1 := ⟨zT_mem 1220 (by decide +kernel) rfl, zT_mem 89 (by decide +kernel) rfl, by decide +kernel, by decide +kernel, by decide +kernel⟩
set_option maxHeartbeats 4000000 in
set_option maxRecDepth 100000 in
theorem ck_firstLeap (s0 : State) (D : va_G) (cB cI cJ cD : ClassId) (n : Nat) (x0 : vLaw) (a0 : Nat) (x : Int32) (h : k_firstLeap n x0 = some x) {hi hm : zHp} {nx : Nat} {Q : Option Value → zHp → zHp → Nat → Prop} (ho0 : iLaw cI hi a0 x0) (hQ0 : Q (some (.int x)) hi hm nx) : zM s0 D (zty cB cI cJ cD) yX11_firstLeap cX11_firstLeap 3 (some .int) 2 44 0 0 [.ref a0] hi hm nx Q := by
  have hQ : ∀ r : Int32, x = r → Q (some (.int r)) hi hm nx := fun r hr => by subst hr; exact hQ0
  clear hQ0
  refine zM_of (by decide +kernel) (Nat.le_of_ble_eq_true rfl) ?_
  unfold k_firstLeap at h
  refine zV_eq (lo2 := [(0, .ref a0)]) rfl rfl rfl rfl ?_
  refine zV_blk (pc' := 1) (lo' := [(0, .ref a0)]) (st' := [.ref a0]) [.aload_n 0] (by decide +kernel) rfl ?_
  obtain ⟨v1, hv1, h⟩ := zbind h
  refine dc_cycle s0 D cB cI cJ cD (idx := 99) x0 a0 v1 hv1 ho0 (zT_mem 581 (by decide +kernel) rfl) (rest := []) rfl (Nat.le_of_ble_eq_true rfl) ⟨by decide, by decide⟩ (by decide +kernel) ?_
  refine zV_eq (st2 := [.int v1]) rfl rfl rfl rfl ?_
  refine zV_blk (pc' := 7) (lo' := [(2, .int 0), (1, .int v1), (0, .ref a0)]) (st' := []) [.istore_n 1, .iconst 0, .istore_n 2] (by decide +kernel) rfl ?_
  refine zV_pick (lo2 := [(0, .ref a0), (1, .int v1), (2, .int 0)]) [2, 1, 0] rfl ?_
  exact ck_firstLeap_7L s0 D cB cI cJ cD n x0 v1 a0 n 0 ho0 h hQ

def k_tellGap_97 (n : Nat) (x0 : vLaw) (x1 : Int32) (x3 : Int32) (x4 : Int32) (x5 : Int32) (x6 : Int32) (x7 : Int32) (x8 : Int32) : Option ((Int32 × Int32 × Int32 × Int32 × Int32) ⊕ (Int32)) := some (.inl (x3, x4, x5, x6, (x8 + 1)))
set_option maxHeartbeats 4000000 in
set_option maxRecDepth 100000 in
theorem ck_tellGap_97 (s0 : State) (D : va_G) (cB cI cJ cD : ClassId) (n : Nat) (x0 : vLaw) (x1 : Int32) (x3 : Int32) (x4 : Int32) (x5 : Int32) (x6 : Int32) (x7 : Int32) (x8 : Int32) (a0 : Nat) {x : (Int32 × Int32 × Int32 × Int32 × Int32) ⊕ (Int32)} {hi hm : zHp} {nx : Nat} {Q : Option Value → zHp → zHp → Nat → Prop} (ho0 : iLaw cI hi a0 x0) (h : k_tellGap_97 n x0 x1 x3 x4 x5 x6 x7 x8 = some x) (hL39 : ∀ s : Int32 × Int32 × Int32 × Int32 × Int32, x = (.inl s) → zV s0 D (zty cB cI cJ cD) yX11_tellGap cX11_tellGap 10 (some .int) 3 66 0 0 39 [(0, .ref a0), (1, .int x1), (3, .int s.1), (4, .int s.2.1), (5, .int s.2.2.1), (6, .int s.2.2.2.1), (7, .int x7), (8, .int s.2.2.2.2)] [] hi hm nx Q) (hQ : ∀ r : Int32, x = (.inr r) → Q (some (.int r)) hi hm nx) : zV s0 D (zty cB cI cJ cD) yX11_tellGap cX11_tellGap 10 (some .int) 3 66 0 0 97 [(0, .ref a0), (1, .int x1), (3, .int x3), (4, .int x4), (5, .int x5), (6, .int x6), (7, .int x7), (8, .int x8)] [] hi hm nx Q := by
  unfold k_tellGap_97 at h
  refine zV_blk (pc' := 100) (lo' := [(8, .int (x8 + 1)), (0, .ref a0), (1, .int x1), (3, .int x3), (4, .int x4), (5, .int x5), (6, .int x6), (7, .int x7)]) (st' := []) [.iinc 8 1] (by decide +kernel) rfl ?_
  refine zV_goto (tgt := 39) (off := -61) (by decide +kernel) (by decide) ?_
  obtain rfl := Option.some.inj h
  refine zV_pick (lo2 := [(0, .ref a0), (1, .int x1), (3, .int x3), (4, .int x4), (5, .int x5), (6, .int x6), (7, .int x7), (8, .int (x8 + 1))]) [1, 2, 3, 4, 5, 6, 7, 0] rfl ?_
  exact hL39 _ rfl
def k_tellGap_87 (n : Nat) (x0 : vLaw) (x1 : Int32) (x3 : Int32) (x4 : Int32) (x5 : Int32) (x6 : Int32) (x7 : Int32) (x8 : Int32) (x9 : Int32) : Option ((Int32 × Int32 × Int32 × Int32 × Int32) ⊕ (Int32)) := (if (x9 : Int32) = (x5 : Int32) then (k_tellGap_97 n x0 x1 x3 x4 x5 (x6 + 1) x7 x8 ) else (k_tellGap_97 n x0 x1 x3 x4 x5 x6 x7 x8 ))
set_option maxHeartbeats 4000000 in
set_option maxRecDepth 100000 in
theorem ck_tellGap_87 (s0 : State) (D : va_G) (cB cI cJ cD : ClassId) (n : Nat) (x0 : vLaw) (x1 : Int32) (x3 : Int32) (x4 : Int32) (x5 : Int32) (x6 : Int32) (x7 : Int32) (x8 : Int32) (x9 : Int32) (a0 : Nat) {x : (Int32 × Int32 × Int32 × Int32 × Int32) ⊕ (Int32)} {hi hm : zHp} {nx : Nat} {Q : Option Value → zHp → zHp → Nat → Prop} (ho0 : iLaw cI hi a0 x0) (h : k_tellGap_87 n x0 x1 x3 x4 x5 x6 x7 x8 x9 = some x) (hL39 : ∀ s : Int32 × Int32 × Int32 × Int32 × Int32, x = (.inl s) → zV s0 D (zty cB cI cJ cD) yX11_tellGap cX11_tellGap 10 (some .int) 3 66 0 0 39 [(0, .ref a0), (1, .int x1), (3, .int s.1), (4, .int s.2.1), (5, .int s.2.2.1), (6, .int s.2.2.2.1), (7, .int x7), (8, .int s.2.2.2.2)] [] hi hm nx Q) (hQ : ∀ r : Int32, x = (.inr r) → Q (some (.int r)) hi hm nx) : zV s0 D (zty cB cI cJ cD) yX11_tellGap cX11_tellGap 10 (some .int) 3 66 0 0 87 [(0, .ref a0), (1, .int x1), (3, .int x3), (4, .int x4), (5, .int x5), (6, .int x6), (7, .int x7), (8, .int x8), (9, .int x9)] [] hi hm nx Q := by
  unfold k_tellGap_87 at h
  refine zV_blk (pc' := 91) (lo' := [(0, .ref a0), (1, .int x1), (3, .int x3), (4, .int x4), (5, .int x5), (6, .int x6), (7, .int x7), (8, .int x8), (9, .int x9)]) (st' := [.int x5, .int x9]) [.iload 9, .iload 5] (by decide +kernel) rfl ?_
  refine zV_icmp_ne (tgt := 97) (off := 6) (by decide +kernel) (by decide) (fun q => ?_) (fun q => ?_)
  · replace h := zif_neg q h
    clear q
    refine zV_pick (lo2 := [(0, .ref a0), (1, .int x1), (3, .int x3), (4, .int x4), (5, .int x5), (6, .int x6), (7, .int x7), (8, .int x8)]) [0, 1, 2, 3, 4, 5, 6, 7] rfl ?_
    exact ck_tellGap_97 s0 D cB cI cJ cD n x0 x1 x3 x4 x5 x6 x7 x8  a0 ho0 h hL39 hQ
  · replace h := zif_pos q h
    clear q
    refine zV_blk (pc' := 97) (lo' := [(6, .int (x6 + 1)), (0, .ref a0), (1, .int x1), (3, .int x3), (4, .int x4), (5, .int x5), (7, .int x7), (8, .int x8), (9, .int x9)]) (st' := []) [.iinc 6 1] (by decide +kernel) rfl ?_
    refine zV_pick (lo2 := [(0, .ref a0), (1, .int x1), (3, .int x3), (4, .int x4), (5, .int x5), (6, .int (x6 + 1)), (7, .int x7), (8, .int x8)]) [1, 2, 3, 4, 5, 0, 6, 7] rfl ?_
    exact ck_tellGap_97 s0 D cB cI cJ cD n x0 x1 x3 x4 x5 (x6 + 1) x7 x8  a0 ho0 h hL39 hQ
def k_tellGap_39 (n : Nat) (x0 : vLaw) (x1 : Int32) (x7 : Int32) (s : Int32 × Int32 × Int32 × Int32 × Int32) : Option ((Int32 × Int32 × Int32 × Int32 × Int32) ⊕ (Int32)) := (if (x7 : Int32) < (s.2.2.2.2 : Int32) then (if (x1 : Int32) = (0 : Int32) then some (.inr s.2.1) else (if (x1 : Int32) = (1 : Int32) then some (.inr s.2.2.1) else some (.inr s.2.2.2.1))) else (d_isLeap n x0 s.2.2.2.2).bind (fun v1 => (if v1 = true then (j_minI s.2.1 (s.2.2.2.2 - s.1)).bind (fun v2 => (if ((s.2.2.2.2 - s.1) : Int32) ≤ (s.2.2.1 : Int32) then (k_tellGap_87 n x0 x1 s.2.2.2.2 v2 s.2.2.1 s.2.2.2.1 x7 s.2.2.2.2 (s.2.2.2.2 - s.1) ) else (k_tellGap_87 n x0 x1 s.2.2.2.2 v2 (s.2.2.2.2 - s.1) 0 x7 s.2.2.2.2 (s.2.2.2.2 - s.1) ))) else (k_tellGap_97 n x0 x1 s.1 s.2.1 s.2.2.1 s.2.2.2.1 x7 s.2.2.2.2 ))))
set_option maxHeartbeats 4000000 in
set_option maxRecDepth 100000 in
theorem ck_tellGap_39 (s0 : State) (D : va_G) (cB cI cJ cD : ClassId) (n : Nat) (x0 : vLaw) (x1 : Int32) (x7 : Int32) (a0 : Nat) (s : Int32 × Int32 × Int32 × Int32 × Int32) {x : (Int32 × Int32 × Int32 × Int32 × Int32) ⊕ (Int32)} {hi hm : zHp} {nx : Nat} {Q : Option Value → zHp → zHp → Nat → Prop} (ho0 : iLaw cI hi a0 x0) (h : k_tellGap_39 n x0 x1 x7 s = some x) (hL39 : ∀ s : Int32 × Int32 × Int32 × Int32 × Int32, x = (.inl s) → zV s0 D (zty cB cI cJ cD) yX11_tellGap cX11_tellGap 10 (some .int) 3 66 0 0 39 [(0, .ref a0), (1, .int x1), (3, .int s.1), (4, .int s.2.1), (5, .int s.2.2.1), (6, .int s.2.2.2.1), (7, .int x7), (8, .int s.2.2.2.2)] [] hi hm nx Q) (hQ : ∀ r : Int32, x = (.inr r) → Q (some (.int r)) hi hm nx) : zV s0 D (zty cB cI cJ cD) yX11_tellGap cX11_tellGap 10 (some .int) 3 66 0 0 39 [(0, .ref a0), (1, .int x1), (3, .int s.1), (4, .int s.2.1), (5, .int s.2.2.1), (6, .int s.2.2.2.1), (7, .int x7), (8, .int s.2.2.2.2)] [] hi hm nx Q := by
  unfold k_tellGap_39 at h
  refine zV_blk (pc' := 43) (lo' := [(0, .ref a0), (1, .int x1), (3, .int s.1), (4, .int s.2.1), (5, .int s.2.2.1), (6, .int s.2.2.2.1), (7, .int x7), (8, .int s.2.2.2.2)]) (st' := [.int x7, .int s.2.2.2.2]) [.iload 8, .iload 7] (by decide +kernel) rfl ?_
  refine zV_icmp_gt (tgt := 103) (off := 60) (by decide +kernel) (by decide) (fun q => ?_) (fun q => ?_)
  · replace h := zif_pos q h
    clear q
    refine zV_blk (pc' := 104) (lo' := [(0, .ref a0), (1, .int x1), (3, .int s.1), (4, .int s.2.1), (5, .int s.2.2.1), (6, .int s.2.2.2.1), (7, .int x7), (8, .int s.2.2.2.2)]) (st' := [.int x1]) [.iload_n 1] (by decide +kernel) rfl ?_
    refine zV_if_ne (tgt := 110) (off := 6) (by decide +kernel) (by decide) (fun q => ?_) (fun q => ?_)
    · replace h := zif_neg q h
      clear q
      refine zV_blk (pc' := 112) (lo' := [(0, .ref a0), (1, .int x1), (3, .int s.1), (4, .int s.2.1), (5, .int s.2.2.1), (6, .int s.2.2.2.1), (7, .int x7), (8, .int s.2.2.2.2)]) (st' := [.int 1, .int x1]) [.iload_n 1, .iconst 1] (by decide +kernel) rfl ?_
      refine zV_icmp_ne (tgt := 120) (off := 8) (by decide +kernel) (by decide) (fun q => ?_) (fun q => ?_)
      · replace h := zif_neg q h
        clear q
        refine zV_blk (pc' := 122) (lo' := [(0, .ref a0), (1, .int x1), (3, .int s.1), (4, .int s.2.1), (5, .int s.2.2.1), (6, .int s.2.2.2.1), (7, .int x7), (8, .int s.2.2.2.2)]) (st' := [.int s.2.2.2.1]) [.iload 6] (by decide +kernel) rfl ?_
        obtain rfl := Option.some.inj h
        exact zV_iret rfl (by decide +kernel) (hQ _ rfl)
      · replace h := zif_pos q h
        clear q
        refine zV_blk (pc' := 117) (lo' := [(0, .ref a0), (1, .int x1), (3, .int s.1), (4, .int s.2.1), (5, .int s.2.2.1), (6, .int s.2.2.2.1), (7, .int x7), (8, .int s.2.2.2.2)]) (st' := [.int s.2.2.1]) [.iload 5] (by decide +kernel) rfl ?_
        refine zV_goto (tgt := 122) (off := 5) (by decide +kernel) (by decide) ?_
        obtain rfl := Option.some.inj h
        exact zV_iret rfl (by decide +kernel) (hQ _ rfl)
    · replace h := zif_pos q h
      clear q
      refine zV_blk (pc' := 109) (lo' := [(0, .ref a0), (1, .int x1), (3, .int s.1), (4, .int s.2.1), (5, .int s.2.2.1), (6, .int s.2.2.2.1), (7, .int x7), (8, .int s.2.2.2.2)]) (st' := [.int s.2.1]) [.iload 4] (by decide +kernel) rfl ?_
      obtain rfl := Option.some.inj h
      exact zV_iret rfl (by decide +kernel) (hQ _ rfl)
  · replace h := zif_neg q h
    clear q
    refine zV_blk (pc' := 49) (lo' := [(0, .ref a0), (1, .int x1), (3, .int s.1), (4, .int s.2.1), (5, .int s.2.2.1), (6, .int s.2.2.2.1), (7, .int x7), (8, .int s.2.2.2.2)]) (st' := [.int s.2.2.2.2, .ref a0]) [.aload_n 0, .iload 8] (by decide +kernel) rfl ?_
    obtain ⟨v1, hv1, h⟩ := zbind h
    refine dc_isLeap s0 D cB cI cJ cD (idx := 223) n x0 s.2.2.2.2 a0 v1 hv1 ho0 (zT_mem 1014 (by decide +kernel) rfl) (rest := []) rfl (Nat.le_of_ble_eq_true rfl) ⟨by decide, by decide⟩ (by decide +kernel) ?_
    refine zV_eq (st2 := [.int (zb v1)]) rfl rfl rfl rfl ?_
    refine zV_bif_eq (tgt := 97) (off := 45) (by decide +kernel) (by decide) (fun q => ?_) (fun q => ?_)
    · replace h := zif_neg q h
      clear q
      refine zV_pick (lo2 := [(0, .ref a0), (1, .int x1), (3, .int s.1), (4, .int s.2.1), (5, .int s.2.2.1), (6, .int s.2.2.2.1), (7, .int x7), (8, .int s.2.2.2.2)]) [0, 1, 2, 3, 4, 5, 6, 7] rfl ?_
      exact ck_tellGap_97 s0 D cB cI cJ cD n x0 x1 s.1 s.2.1 s.2.2.1 s.2.2.2.1 x7 s.2.2.2.2  a0 ho0 h hL39 hQ
    · replace h := zif_pos q h
      clear q
      refine zV_blk (pc' := 68) (lo' := [(3, .int s.2.2.2.2), (9, .int (s.2.2.2.2 - s.1)), (0, .ref a0), (1, .int x1), (4, .int s.2.1), (5, .int s.2.2.1), (6, .int s.2.2.2.1), (7, .int x7), (8, .int s.2.2.2.2)]) (st' := [.int (s.2.2.2.2 - s.1), .int s.2.1]) [.iload 8, .iload_n 3, .isub, .istore 9, .iload 8, .istore_n 3, .iload 4, .iload 9] (by decide +kernel) rfl ?_
      obtain ⟨v2, hv2, h⟩ := zbind h
      refine zV_roS (idx := 201) (rest := []) (fun Q2 hQ2 => cj_minI s0 D cB cI cJ cD s.2.1 (s.2.2.2.2 - s.1)  v2 hv2  hQ2) oJ9_min_7cf53 (zT_mem 580 (by decide +kernel) rfl) (zT_mem 225 (by decide +kernel) rfl) rfl rfl (Nat.le_of_ble_eq_true rfl) ⟨by decide, by decide⟩ (by decide +kernel) ?_
      refine zV_eq (st2 := [.int v2]) rfl rfl rfl rfl ?_
      refine zV_blk (pc' := 77) (lo' := [(4, .int v2), (3, .int s.2.2.2.2), (9, .int (s.2.2.2.2 - s.1)), (0, .ref a0), (1, .int x1), (5, .int s.2.2.1), (6, .int s.2.2.2.1), (7, .int x7), (8, .int s.2.2.2.2)]) (st' := [.int s.2.2.1, .int (s.2.2.2.2 - s.1)]) [.istore 4, .iload 9, .iload 5] (by decide +kernel) rfl ?_
      refine zV_icmp_le (tgt := 87) (off := 10) (by decide +kernel) (by decide) (fun q => ?_) (fun q => ?_)
      · replace h := zif_pos q h
        clear q
        refine zV_pick (lo2 := [(0, .ref a0), (1, .int x1), (3, .int s.2.2.2.2), (4, .int v2), (5, .int s.2.2.1), (6, .int s.2.2.2.1), (7, .int x7), (8, .int s.2.2.2.2), (9, .int (s.2.2.2.2 - s.1))]) [3, 4, 1, 0, 5, 6, 7, 8, 2] rfl ?_
        exact ck_tellGap_87 s0 D cB cI cJ cD n x0 x1 s.2.2.2.2 v2 s.2.2.1 s.2.2.2.1 x7 s.2.2.2.2 (s.2.2.2.2 - s.1)  a0 ho0 h hL39 hQ
      · replace h := zif_neg q h
        clear q
        refine zV_blk (pc' := 87) (lo' := [(6, .int 0), (5, .int (s.2.2.2.2 - s.1)), (4, .int v2), (3, .int s.2.2.2.2), (9, .int (s.2.2.2.2 - s.1)), (0, .ref a0), (1, .int x1), (7, .int x7), (8, .int s.2.2.2.2)]) (st' := []) [.iload 9, .istore 5, .iconst 0, .istore 6] (by decide +kernel) rfl ?_
        refine zV_pick (lo2 := [(0, .ref a0), (1, .int x1), (3, .int s.2.2.2.2), (4, .int v2), (5, .int (s.2.2.2.2 - s.1)), (6, .int 0), (7, .int x7), (8, .int s.2.2.2.2), (9, .int (s.2.2.2.2 - s.1))]) [5, 6, 3, 2, 1, 0, 7, 8, 4] rfl ?_
        exact ck_tellGap_87 s0 D cB cI cJ cD n x0 x1 s.2.2.2.2 v2 (s.2.2.2.2 - s.1) 0 x7 s.2.2.2.2 (s.2.2.2.2 - s.1)  a0 ho0 h hL39 hQ
theorem ck_tellGap_39L (s0 : State) (D : va_G) (cB cI cJ cD : ClassId) (n : Nat) (x0 : vLaw) (x1 : Int32) (x7 : Int32) (a0 : Nat) : ∀ (k : Nat) (s : Int32 × Int32 × Int32 × Int32 × Int32) {hi hm : zHp} {nx : Nat} {Q : Option Value → zHp → zHp → Nat → Prop} (ho0 : iLaw cI hi a0 x0) {x : Int32} (_ : zloop (k_tellGap_39 n x0 x1 x7) k s = some x) (hQ : ∀ r : Int32, x = r → Q (some (.int r)) hi hm nx), zV s0 D (zty cB cI cJ cD) yX11_tellGap cX11_tellGap 10 (some .int) 3 66 0 0 39 [(0, .ref a0), (1, .int x1), (3, .int s.1), (4, .int s.2.1), (5, .int s.2.2.1), (6, .int s.2.2.2.1), (7, .int x7), (8, .int s.2.2.2.2)] [] hi hm nx Q
  | 0, s, _, _, _, _, _, _, h, _ => by cases h
  | k + 1, s, hi, hm, nx, Q, ho0, x, h, hQ => by
    obtain ⟨z, hz, h1, h2⟩ := zloop_succ h
    exact ck_tellGap_39 s0 D cB cI cJ cD n x0 x1 x7 a0 s ho0 hz (fun s' hs => ck_tellGap_39L s0 D cB cI cJ cD n x0 x1 x7 a0 k s' ho0 (h1 s' hs) hQ) (fun r hr => hQ r (h2 _ hr).symm)
def k_tellGap (n : Nat) (x0 : vLaw) (x1 : Int32) : Option (Int32) := (k_firstLeap n x0).bind (fun v1 => (if (v1 : Int32) = ((-1) : Int32) then some 0 else (d_cycle x0).bind (fun v2 => (d_cycle x0).bind (fun v3 => (zloop (k_tellGap_39 n x0 x1 (v1 + v3)) n (v1, v2, 0, 0, (v1 + 1)))))))
theorem oX11_tellGap : zO yX11_tellGap cX11_tellGap 10 (some .int) 2 := ⟨zT_mem 1217 (by decide +kernel) rfl, zT_mem 89 (by decide +kernel) rfl, by decide +kernel, by decide +kernel, by decide +kernel⟩
set_option maxHeartbeats 4000000 in
set_option maxRecDepth 100000 in
theorem ck_tellGap (s0 : State) (D : va_G) (cB cI cJ cD : ClassId) (n : Nat) (x0 : vLaw) (x1 : Int32) (a0 : Nat) (x : Int32) (h : k_tellGap n x0 x1 = some x) {hi hm : zHp} {nx : Nat} {Q : Option Value → zHp → zHp → Nat → Prop} (ho0 : iLaw cI hi a0 x0) (hQ0 : Q (some (.int x)) hi hm nx) : zM s0 D (zty cB cI cJ cD) yX11_tellGap cX11_tellGap 10 (some .int) 3 66 0 0 [.ref a0, .int x1] hi hm nx Q := by
  have hQ : ∀ r : Int32, x = r → Q (some (.int r)) hi hm nx := fun r hr => by subst hr; exact hQ0
  clear hQ0
  refine zM_of (by decide +kernel) (Nat.le_of_ble_eq_true rfl) ?_
  unfold k_tellGap at h
  refine zV_eq (lo2 := [(0, .ref a0), (1, .int x1)]) rfl rfl rfl rfl ?_
  refine zV_blk (pc' := 1) (lo' := [(0, .ref a0), (1, .int x1)]) (st' := [.ref a0]) [.aload_n 0] (by decide +kernel) rfl ?_
  obtain ⟨v1, hv1, h⟩ := zbind h
  refine zV_roS (idx := 311) (rest := []) (fun Q2 hQ2 => ck_firstLeap s0 D cB cI cJ cD n x0 a0 v1 hv1 ho0 hQ2) oX11_firstLeap (zT_mem 1218 (by decide +kernel) rfl) (zT_mem 1219 (by decide +kernel) rfl) rfl rfl (Nat.le_of_ble_eq_true rfl) ⟨by decide, by decide⟩ (by decide +kernel) ?_
  refine zV_eq (st2 := [.int v1]) rfl rfl rfl rfl ?_
  refine zV_blk (pc' := 7) (lo' := [(2, .int v1), (0, .ref a0), (1, .int x1)]) (st' := [.int (-1), .int v1]) [.istore_n 2, .iload_n 2, .iconst (-1)] (by decide +kernel) rfl ?_
  refine zV_icmp_ne (tgt := 12) (off := 5) (by decide +kernel) (by decide) (fun q => ?_) (fun q => ?_)
  · replace h := zif_neg q h
    clear q
    refine zV_blk (pc' := 15) (lo' := [(3, .int v1), (2, .int v1), (0, .ref a0), (1, .int x1)]) (st' := [.ref a0]) [.iload_n 2, .istore_n 3, .aload_n 0] (by decide +kernel) rfl ?_
    obtain ⟨v2, hv2, h⟩ := zbind h
    refine dc_cycle s0 D cB cI cJ cD (idx := 99) x0 a0 v2 hv2 ho0 (zT_mem 581 (by decide +kernel) rfl) (rest := []) rfl (Nat.le_of_ble_eq_true rfl) ⟨by decide, by decide⟩ (by decide +kernel) ?_
    refine zV_eq (st2 := [.int v2]) rfl rfl rfl rfl ?_
    refine zV_blk (pc' := 28) (lo' := [(6, .int 0), (5, .int 0), (4, .int v2), (3, .int v1), (2, .int v1), (0, .ref a0), (1, .int x1)]) (st' := [.ref a0, .int v1]) [.istore 4, .iconst 0, .istore 5, .iconst 0, .istore 6, .iload_n 2, .aload_n 0] (by decide +kernel) rfl ?_
    obtain ⟨v3, hv3, h⟩ := zbind h
    refine dc_cycle s0 D cB cI cJ cD (idx := 99) x0 a0 v3 hv3 ho0 (zT_mem 581 (by decide +kernel) rfl) (rest := [.int v1]) rfl (Nat.le_of_ble_eq_true rfl) ⟨by decide, by decide⟩ (by decide +kernel) ?_
    refine zV_eq (st2 := [.int v3, .int v1]) rfl rfl rfl rfl ?_
    refine zV_blk (pc' := 39) (lo' := [(8, .int (v1 + 1)), (7, .int (v1 + v3)), (6, .int 0), (5, .int 0), (4, .int v2), (3, .int v1), (2, .int v1), (0, .ref a0), (1, .int x1)]) (st' := []) [.iadd, .istore 7, .iload_n 2, .iconst 1, .iadd, .istore 8] (by decide +kernel) rfl ?_
    refine zV_pick (lo2 := [(0, .ref a0), (1, .int x1), (3, .int v1), (4, .int v2), (5, .int 0), (6, .int 0), (7, .int (v1 + v3)), (8, .int (v1 + 1))]) [7, 8, 5, 4, 3, 2, 1, 0] rfl ?_
    exact ck_tellGap_39L s0 D cB cI cJ cD n x0 x1 (v1 + v3) a0 n (v1, v2, 0, 0, (v1 + 1)) ho0 h hQ
  · replace h := zif_pos q h
    clear q
    refine zV_blk (pc' := 11) (lo' := [(2, .int v1), (0, .ref a0), (1, .int x1)]) (st' := [.int 0]) [.iconst 0] (by decide +kernel) rfl ?_
    obtain rfl := Option.some.inj h
    exact zV_iret rfl (by decide +kernel) (hQ _ rfl)

