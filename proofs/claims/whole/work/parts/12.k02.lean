def k_gcd_51 (n : Nat) (x4 : Int64) : Option (Int64) := (j_maxL 1 x4).bind (fun v1 => some v1)
set_option maxHeartbeats 4000000 in
set_option maxRecDepth 100000 in
theorem ck_gcd_51 (s0 : State) (D : va_G) (cB cI cJ cD : ClassId) (n : Nat) (x4 : Int64) {x : Int64} {hi hm : zHp} {nx : Nat} {Q : Option Value → zHp → zHp → Nat → Prop} (h : k_gcd_51 n x4 = some x) (hQ : ∀ r : Int64, x = r → Q (some (.long r)) hi hm nx) : zV s0 D (zty cB cI cJ cD) yX2_commonDivisor cX2_commonDivisor 11 (some .long) 1 23 0 0 51 [(4, .long x4)] [] hi hm nx Q := by
  unfold k_gcd_51 at h
  refine zV_blk (pc' := 54) (lo' := [(4, .long x4)]) (st' := [.long x4, .long 1]) [.lconst 1, .lload 4] (by decide +kernel) rfl ?_
  obtain ⟨v1, hv1, h⟩ := zbind h
  refine zV_roS (idx := 26) (rest := []) (fun Q2 hQ2 => cj_maxL s0 D cB cI cJ cD 1 x4  v1 hv1  hQ2) oJ9_max_f86c9 (zT_mem 695 (by decide +kernel) rfl) (zT_mem 696 (by decide +kernel) rfl) rfl rfl (Nat.le_of_ble_eq_true rfl) ⟨by decide, by decide⟩ (by decide +kernel) ?_
  refine zV_eq (st2 := [.long v1]) rfl rfl rfl rfl ?_
  obtain rfl := Option.some.inj h
  exact zV_lret rfl (by decide +kernel) (hQ _ rfl)
def k_gcd_15 (n : Nat) (s : Int64 × Int64 × Int32) : Option ((Int64 × Int64 × Int32) ⊕ (Int64)) := (if (200 : Int32) ≤ (s.2.2 : Int32) then ((k_gcd_51 n s.1 ).map (fun z => .inr z)) else (if (s.2.1 : Int64) ≤ (0 : Int64) then ((k_gcd_51 n s.1 ).map (fun z => .inr z)) else zck (decide (¬ (s.2.1 : Int64) = 0)) (some (.inl (s.2.1, (s.1 - s.1 / s.2.1 * s.2.1), (s.2.2 + 1))))))
set_option maxHeartbeats 4000000 in
set_option maxRecDepth 100000 in
theorem ck_gcd_15 (s0 : State) (D : va_G) (cB cI cJ cD : ClassId) (n : Nat) (s : Int64 × Int64 × Int32) {x : (Int64 × Int64 × Int32) ⊕ (Int64)} {hi hm : zHp} {nx : Nat} {Q : Option Value → zHp → zHp → Nat → Prop} (h : k_gcd_15 n  s = some x) (hL15 : ∀ s : Int64 × Int64 × Int32, x = (.inl s) → zV s0 D (zty cB cI cJ cD) yX2_commonDivisor cX2_commonDivisor 11 (some .long) 1 23 0 0 15 [(4, .long s.1), (6, .long s.2.1), (8, .int s.2.2)] [] hi hm nx Q) (hQ : ∀ r : Int64, x = (.inr r) → Q (some (.long r)) hi hm nx) : zV s0 D (zty cB cI cJ cD) yX2_commonDivisor cX2_commonDivisor 11 (some .long) 1 23 0 0 15 [(4, .long s.1), (6, .long s.2.1), (8, .int s.2.2)] [] hi hm nx Q := by
  unfold k_gcd_15 at h
  refine zV_blk (pc' := 20) (lo' := [(4, .long s.1), (6, .long s.2.1), (8, .int s.2.2)]) (st' := [.int 200, .int s.2.2]) [.iload 8, .sipush 200] (by decide +kernel) rfl ?_
  refine zV_icmp_ge (tgt := 51) (off := 31) (by decide +kernel) (by decide) (fun q => ?_) (fun q => ?_)
  · replace h := zif_pos q h
    clear q
    obtain ⟨z1, h9, hx⟩ := zmap h
    clear h; subst hx; have h := h9; clear h9
    refine zV_pick (lo2 := [(4, .long s.1)]) [0] rfl ?_
    exact ck_gcd_51 s0 D cB cI cJ cD n s.1    h (fun r hr => hQ r (by rw [hr]))
  · replace h := zif_neg q h
    clear q
    refine zV_blk (pc' := 27) (lo' := [(4, .long s.1), (6, .long s.2.1), (8, .int s.2.2)]) (st' := [.int (lg_cmp s.2.1 0)]) [.lload 6, .lconst 0, .lcmp] (by decide +kernel) rfl ?_
    refine zV_lcmp_le (tgt := 51) (off := 24) (by decide +kernel) (by decide) (fun q => ?_) (fun q => ?_)
    · replace h := zif_pos q h
      clear q
      obtain ⟨z2, h9, hx⟩ := zmap h
      clear h; subst hx; have h := h9; clear h9
      refine zV_pick (lo2 := [(4, .long s.1)]) [0] rfl ?_
      exact ck_gcd_51 s0 D cB cI cJ cD n s.1    h (fun r hr => hQ r (by rw [hr]))
    · replace h := zif_neg q h
      clear q
      refine zV_blk (pc' := 34) (lo' := [(4, .long s.1), (6, .long s.2.1), (8, .int s.2.2)]) (st' := [.long s.2.1, .long s.1]) [.lload 4, .lload 6] (by decide +kernel) rfl ?_
      obtain ⟨hz, h⟩ := zck_some h
      refine zV_lrem (by decide +kernel) (of_decide_eq_true hz) ?_
      refine zV_blk (pc' := 48) (lo' := [(8, .int (s.2.2 + 1)), (6, .long (s.1 - s.1 / s.2.1 * s.2.1)), (4, .long s.2.1), (9, .long (s.1 - s.1 / s.2.1 * s.2.1))]) (st' := []) [.lstore 9, .lload 6, .lstore 4, .lload 9, .lstore 6, .iinc 8 1] (by decide +kernel) rfl ?_
      refine zV_goto (tgt := 15) (off := -33) (by decide +kernel) (by decide) ?_
      obtain rfl := Option.some.inj h
      refine zV_pick (lo2 := [(4, .long s.2.1), (6, .long (s.1 - s.1 / s.2.1 * s.2.1)), (8, .int (s.2.2 + 1))]) [2, 1, 0] rfl ?_
      exact hL15 _ rfl
theorem ck_gcd_15L (s0 : State) (D : va_G) (cB cI cJ cD : ClassId) (n : Nat) : ∀ (k : Nat) (s : Int64 × Int64 × Int32) {hi hm : zHp} {nx : Nat} {Q : Option Value → zHp → zHp → Nat → Prop} {x : Int64} (_ : zloop (k_gcd_15 n ) k s = some x) (hQ : ∀ r : Int64, x = r → Q (some (.long r)) hi hm nx), zV s0 D (zty cB cI cJ cD) yX2_commonDivisor cX2_commonDivisor 11 (some .long) 1 23 0 0 15 [(4, .long s.1), (6, .long s.2.1), (8, .int s.2.2)] [] hi hm nx Q
  | 0, s, _, _, _, _, _, h, _ => by cases h
  | k + 1, s, hi, hm, nx, Q, x, h, hQ => by
    obtain ⟨z, hz, h1, h2⟩ := zloop_succ h
    exact ck_gcd_15 s0 D cB cI cJ cD n   s  hz (fun s' hs => ck_gcd_15L s0 D cB cI cJ cD n   k s'  (h1 s' hs) hQ) (fun r hr => hQ r (h2 _ hr).symm)
def k_gcd (n : Nat) (x0 : Int64) (x2 : Int64) : Option (Int64) := (j_abs x0).bind (fun v1 => (j_abs x2).bind (fun v2 => (zloop (k_gcd_15 n ) n (v1, v2, 0))))
theorem oX2_commonDivisor : zO yX2_commonDivisor cX2_commonDivisor 11 (some .long) 2 := ⟨zT_mem 691 (by decide +kernel) rfl, zT_mem 107 (by decide +kernel) rfl, by decide +kernel, by decide +kernel, by decide +kernel⟩
set_option maxHeartbeats 4000000 in
set_option maxRecDepth 100000 in
theorem ck_gcd (s0 : State) (D : va_G) (cB cI cJ cD : ClassId) (n : Nat) (x0 : Int64) (x2 : Int64) (x : Int64) (h : k_gcd n x0 x2 = some x) {hi hm : zHp} {nx : Nat} {Q : Option Value → zHp → zHp → Nat → Prop} (hQ0 : Q (some (.long x)) hi hm nx) : zM s0 D (zty cB cI cJ cD) yX2_commonDivisor cX2_commonDivisor 11 (some .long) 1 23 0 0 [.long x0, .long x2] hi hm nx Q := by
  have hQ : ∀ r : Int64, x = r → Q (some (.long r)) hi hm nx := fun r hr => by subst hr; exact hQ0
  clear hQ0
  refine zM_of (by decide +kernel) (Nat.le_of_ble_eq_true rfl) ?_
  unfold k_gcd at h
  refine zV_eq (lo2 := [(0, .long x0), (2, .long x2)]) rfl rfl rfl rfl ?_
  refine zV_blk (pc' := 1) (lo' := [(0, .long x0), (2, .long x2)]) (st' := [.long x0]) [.lload_n 0] (by decide +kernel) rfl ?_
  obtain ⟨v1, hv1, h⟩ := zbind h
  refine zV_roS (idx := 20) (rest := []) (fun Q2 hQ2 => cj_abs s0 D cB cI cJ cD x0  v1 hv1  hQ2) oJ9_abs_067f4 (zT_mem 692 (by decide +kernel) rfl) (zT_mem 693 (by decide +kernel) rfl) rfl rfl (Nat.le_of_ble_eq_true rfl) ⟨by decide, by decide⟩ (by decide +kernel) ?_
  refine zV_eq (st2 := [.long v1]) rfl rfl rfl rfl ?_
  refine zV_blk (pc' := 7) (lo' := [(4, .long v1), (0, .long x0), (2, .long x2)]) (st' := [.long x2]) [.lstore 4, .lload_n 2] (by decide +kernel) rfl ?_
  obtain ⟨v2, hv2, h⟩ := zbind h
  refine zV_roS (idx := 20) (rest := []) (fun Q2 hQ2 => cj_abs s0 D cB cI cJ cD x2  v2 hv2  hQ2) oJ9_abs_067f4 (zT_mem 692 (by decide +kernel) rfl) (zT_mem 693 (by decide +kernel) rfl) rfl rfl (Nat.le_of_ble_eq_true rfl) ⟨by decide, by decide⟩ (by decide +kernel) ?_
  refine zV_eq (st2 := [.long v2]) rfl rfl rfl rfl ?_
  refine zV_blk (pc' := 15) (lo' := [(8, .int 0), (6, .long v2), (4, .long v1), (0, .long x0), (2, .long x2)]) (st' := []) [.lstore 6, .iconst 0, .istore 8] (by decide +kernel) rfl ?_
  refine zV_pick (lo2 := [(4, .long v1), (6, .long v2), (8, .int 0)]) [2, 1, 0] rfl ?_
  exact ck_gcd_15L s0 D cB cI cJ cD n   n (v1, v2, 0)  h hQ

def k_tellTerm_58 (n : Nat) (x4 : Int32) (x9 : Int32) : Option (Int64) := (if (x4 : Int32) = ((-1) : Int32) then some (x9 : Int32).toInt64 else some (-1000000000000000))
set_option maxHeartbeats 4000000 in
set_option maxRecDepth 100000 in
theorem ck_tellTerm_58 (s0 : State) (D : va_G) (cB cI cJ cD : ClassId) (n : Nat) (x4 : Int32) (x9 : Int32) {x : Int64} {hi hm : zHp} {nx : Nat} {Q : Option Value → zHp → zHp → Nat → Prop} (h : k_tellTerm_58 n x4 x9 = some x) (hQ : ∀ r : Int64, x = r → Q (some (.long r)) hi hm nx) : zV s0 D (zty cB cI cJ cD) yX2_tellTerm cX2_tellTerm 12 (some .long) 0 0 0 0 58 [(4, .int x4), (9, .int x9)] [] hi hm nx Q := by
  unfold k_tellTerm_58 at h
  refine zV_blk (pc' := 61) (lo' := [(4, .int x4), (9, .int x9)]) (st' := [.int (-1), .int x4]) [.iload 4, .iconst (-1)] (by decide +kernel) rfl ?_
  refine zV_icmp_ne (tgt := 70) (off := 9) (by decide +kernel) (by decide) (fun q => ?_) (fun q => ?_)
  · replace h := zif_neg q h
    clear q
    refine zV_ldc2 (idx := 18) (v := (-1000000000000000)) (zT_mem 728 (by decide +kernel) rfl) (by decide +kernel) ?_
    obtain rfl := Option.some.inj h
    exact zV_lret rfl (by decide +kernel) (hQ _ rfl)
  · replace h := zif_pos q h
    clear q
    refine zV_blk (pc' := 67) (lo' := [(4, .int x4), (9, .int x9)]) (st' := [.long (x9 : Int32).toInt64]) [.iload 9, .i2l] (by decide +kernel) rfl ?_
    refine zV_goto (tgt := 73) (off := 6) (by decide +kernel) (by decide) ?_
    obtain rfl := Option.some.inj h
    exact zV_lret rfl (by decide +kernel) (hQ _ rfl)
def k_tellTerm_9 (n : Nat) (x4 : Int32) (s : Int64 × Int64 × Int32) : Option ((Int64 × Int64 × Int32) ⊕ (Int64)) := (if (200 : Int32) ≤ (s.2.2 : Int32) then ((k_tellTerm_58 n x4 s.2.2 ).map (fun z => .inr z)) else (if (s.2.1 : Int64) ≤ (0 : Int64) then ((k_tellTerm_58 n x4 s.2.2 ).map (fun z => .inr z)) else (if (s.2.2 : Int32) = (x4 : Int32) then zck (decide (¬ (s.2.1 : Int64) = 0)) (some (.inr (s.1 / s.2.1))) else zck (decide (¬ (s.2.1 : Int64) = 0)) (some (.inl (s.2.1, (s.1 - s.1 / s.2.1 * s.2.1), (s.2.2 + 1)))))))
set_option maxHeartbeats 4000000 in
set_option maxRecDepth 100000 in
theorem ck_tellTerm_9 (s0 : State) (D : va_G) (cB cI cJ cD : ClassId) (n : Nat) (x4 : Int32) (s : Int64 × Int64 × Int32) {x : (Int64 × Int64 × Int32) ⊕ (Int64)} {hi hm : zHp} {nx : Nat} {Q : Option Value → zHp → zHp → Nat → Prop} (h : k_tellTerm_9 n x4 s = some x) (hL9 : ∀ s : Int64 × Int64 × Int32, x = (.inl s) → zV s0 D (zty cB cI cJ cD) yX2_tellTerm cX2_tellTerm 12 (some .long) 0 0 0 0 9 [(4, .int x4), (5, .long s.1), (7, .long s.2.1), (9, .int s.2.2)] [] hi hm nx Q) (hQ : ∀ r : Int64, x = (.inr r) → Q (some (.long r)) hi hm nx) : zV s0 D (zty cB cI cJ cD) yX2_tellTerm cX2_tellTerm 12 (some .long) 0 0 0 0 9 [(4, .int x4), (5, .long s.1), (7, .long s.2.1), (9, .int s.2.2)] [] hi hm nx Q := by
  unfold k_tellTerm_9 at h
  refine zV_blk (pc' := 14) (lo' := [(4, .int x4), (5, .long s.1), (7, .long s.2.1), (9, .int s.2.2)]) (st' := [.int 200, .int s.2.2]) [.iload 9, .sipush 200] (by decide +kernel) rfl ?_
  refine zV_icmp_ge (tgt := 58) (off := 44) (by decide +kernel) (by decide) (fun q => ?_) (fun q => ?_)
  · replace h := zif_pos q h
    clear q
    obtain ⟨z1, h9, hx⟩ := zmap h
    clear h; subst hx; have h := h9; clear h9
    refine zV_pick (lo2 := [(4, .int x4), (9, .int s.2.2)]) [0, 3] rfl ?_
    exact ck_tellTerm_58 s0 D cB cI cJ cD n x4 s.2.2    h (fun r hr => hQ r (by rw [hr]))
  · replace h := zif_neg q h
    clear q
    refine zV_blk (pc' := 21) (lo' := [(4, .int x4), (5, .long s.1), (7, .long s.2.1), (9, .int s.2.2)]) (st' := [.int (lg_cmp s.2.1 0)]) [.lload 7, .lconst 0, .lcmp] (by decide +kernel) rfl ?_
    refine zV_lcmp_le (tgt := 58) (off := 37) (by decide +kernel) (by decide) (fun q => ?_) (fun q => ?_)
    · replace h := zif_pos q h
      clear q
      obtain ⟨z2, h9, hx⟩ := zmap h
      clear h; subst hx; have h := h9; clear h9
      refine zV_pick (lo2 := [(4, .int x4), (9, .int s.2.2)]) [0, 3] rfl ?_
      exact ck_tellTerm_58 s0 D cB cI cJ cD n x4 s.2.2    h (fun r hr => hQ r (by rw [hr]))
    · replace h := zif_neg q h
      clear q
      refine zV_blk (pc' := 28) (lo' := [(4, .int x4), (5, .long s.1), (7, .long s.2.1), (9, .int s.2.2)]) (st' := [.int x4, .int s.2.2]) [.iload 9, .iload 4] (by decide +kernel) rfl ?_
      refine zV_icmp_ne (tgt := 37) (off := 9) (by decide +kernel) (by decide) (fun q => ?_) (fun q => ?_)
      · replace h := zif_neg q h
        clear q
        refine zV_blk (pc' := 41) (lo' := [(4, .int x4), (5, .long s.1), (7, .long s.2.1), (9, .int s.2.2)]) (st' := [.long s.2.1, .long s.1]) [.lload 5, .lload 7] (by decide +kernel) rfl ?_
        obtain ⟨hz, h⟩ := zck_some h
        refine zV_lrem (by decide +kernel) (of_decide_eq_true hz) ?_
        refine zV_blk (pc' := 55) (lo' := [(9, .int (s.2.2 + 1)), (7, .long (s.1 - s.1 / s.2.1 * s.2.1)), (5, .long s.2.1), (10, .long (s.1 - s.1 / s.2.1 * s.2.1)), (4, .int x4)]) (st' := []) [.lstore 10, .lload 7, .lstore 5, .lload 10, .lstore 7, .iinc 9 1] (by decide +kernel) rfl ?_
        refine zV_goto (tgt := 9) (off := -46) (by decide +kernel) (by decide) ?_
        obtain rfl := Option.some.inj h
        refine zV_pick (lo2 := [(4, .int x4), (5, .long s.2.1), (7, .long (s.1 - s.1 / s.2.1 * s.2.1)), (9, .int (s.2.2 + 1))]) [4, 2, 1, 0] rfl ?_
        exact hL9 _ rfl
      · replace h := zif_pos q h
        clear q
        refine zV_blk (pc' := 35) (lo' := [(4, .int x4), (5, .long s.1), (7, .long s.2.1), (9, .int s.2.2)]) (st' := [.long s.2.1, .long s.1]) [.lload 5, .lload 7] (by decide +kernel) rfl ?_
        obtain ⟨hz, h⟩ := zck_some h
        refine zV_ldiv (by decide +kernel) (of_decide_eq_true hz) ?_
        obtain rfl := Option.some.inj h
        exact zV_lret rfl (by decide +kernel) (hQ _ rfl)
theorem ck_tellTerm_9L (s0 : State) (D : va_G) (cB cI cJ cD : ClassId) (n : Nat) (x4 : Int32) : ∀ (k : Nat) (s : Int64 × Int64 × Int32) {hi hm : zHp} {nx : Nat} {Q : Option Value → zHp → zHp → Nat → Prop} {x : Int64} (_ : zloop (k_tellTerm_9 n x4) k s = some x) (hQ : ∀ r : Int64, x = r → Q (some (.long r)) hi hm nx), zV s0 D (zty cB cI cJ cD) yX2_tellTerm cX2_tellTerm 12 (some .long) 0 0 0 0 9 [(4, .int x4), (5, .long s.1), (7, .long s.2.1), (9, .int s.2.2)] [] hi hm nx Q
  | 0, s, _, _, _, _, _, h, _ => by cases h
  | k + 1, s, hi, hm, nx, Q, x, h, hQ => by
    obtain ⟨z, hz, h1, h2⟩ := zloop_succ h
    exact ck_tellTerm_9 s0 D cB cI cJ cD n x4  s  hz (fun s' hs => ck_tellTerm_9L s0 D cB cI cJ cD n x4  k s'  (h1 s' hs) hQ) (fun r hr => hQ r (h2 _ hr).symm)
def k_tellTerm (n : Nat) (x0 : Int64) (x2 : Int64) (x4 : Int32) : Option (Int64) := (zloop (k_tellTerm_9 n x4) n (x0, x2, 0))
theorem oX2_tellTerm : zO yX2_tellTerm cX2_tellTerm 12 (some .long) 3 := ⟨zT_mem 1419 (by decide +kernel) rfl, zT_mem 107 (by decide +kernel) rfl, by decide +kernel, by decide +kernel, by decide +kernel⟩
set_option maxHeartbeats 4000000 in
set_option maxRecDepth 100000 in
theorem ck_tellTerm (s0 : State) (D : va_G) (cB cI cJ cD : ClassId) (n : Nat) (x0 : Int64) (x2 : Int64) (x4 : Int32) (x : Int64) (h : k_tellTerm n x0 x2 x4 = some x) {hi hm : zHp} {nx : Nat} {Q : Option Value → zHp → zHp → Nat → Prop} (hQ0 : Q (some (.long x)) hi hm nx) : zM s0 D (zty cB cI cJ cD) yX2_tellTerm cX2_tellTerm 12 (some .long) 0 0 0 0 [.long x0, .long x2, .int x4] hi hm nx Q := by
  have hQ : ∀ r : Int64, x = r → Q (some (.long r)) hi hm nx := fun r hr => by subst hr; exact hQ0
  clear hQ0
  refine zM_of (by decide +kernel) (Nat.le_of_ble_eq_true rfl) ?_
  unfold k_tellTerm at h
  refine zV_eq (lo2 := [(0, .long x0), (2, .long x2), (4, .int x4)]) rfl rfl rfl rfl ?_
  refine zV_blk (pc' := 9) (lo' := [(9, .int 0), (7, .long x2), (5, .long x0), (0, .long x0), (2, .long x2), (4, .int x4)]) (st' := []) [.lload_n 0, .lstore 5, .lload_n 2, .lstore 7, .iconst 0, .istore 9] (by decide +kernel) rfl ?_
  refine zV_pick (lo2 := [(4, .int x4), (5, .long x0), (7, .long x2), (9, .int 0)]) [5, 2, 1, 0] rfl ?_
  exact ck_tellTerm_9L s0 D cB cI cJ cD n x4  n (x0, x2, 0)  h hQ

def k_tellPart (x0 : vFra) (x1 : Int32) : Option (Int64) := (if (x1 : Int32) = 0 then some x0.1 else (if (x1 : Int32) = 1 then some x0.2 else some (-1000000000000000)))
theorem oX2_tellPart : zO yX2_tellPart cX2_tellPart 2 (some .long) 1 := ⟨zT_mem 727 (by decide +kernel) rfl, zT_mem 107 (by decide +kernel) rfl, by decide +kernel, by decide +kernel, by decide +kernel⟩
set_option maxHeartbeats 4000000 in
set_option maxRecDepth 100000 in
theorem ck_tellPart (s0 : State) (D : va_G) (cB cI cJ cD : ClassId) (x0 : vFra) (x1 : Int32) (a0 : Nat) (x : Int64) (h : k_tellPart x0 x1 = some x) {hi hm : zHp} {nx : Nat} {Q : Option Value → zHp → zHp → Nat → Prop} (ho0 : iFra hi a0 x0) (hQ0 : Q (some (.long x)) hi hm nx) : zM s0 D (zty cB cI cJ cD) yX2_tellPart cX2_tellPart 2 (some .long) 0 0 0 0 [.ref a0, .int x1] hi hm nx Q := by
  have hQ : ∀ r : Int64, x = r → Q (some (.long r)) hi hm nx := fun r hr => by subst hr; exact hQ0
  clear hQ0
  refine zM_of (by decide +kernel) (Nat.le_of_ble_eq_true rfl) ?_
  unfold k_tellPart at h
  refine zV_eq (lo2 := [(0, .ref a0), (1, .int x1)]) rfl rfl rfl rfl ?_
  refine zV_blk (pc' := 1) (lo' := [(0, .ref a0), (1, .int x1)]) (st' := [.int x1]) [.iload_n 1] (by decide +kernel) rfl ?_
  by_cases q1 : (x1 : Int32) = 0
  · replace h := zif_pos q1 h
    refine zV_lsw (tgt := 28) (off := 27) (dflt := 37) (ps := #[(0, 27), (1, 32)]) (len := 27) (by decide +kernel) (by decide +kernel) (by rw [q1]; decide +kernel) (by decide) ?_
    refine zV_blk (pc' := 29) (lo' := [(0, .ref a0), (1, .int x1)]) (st' := [.ref a0]) [.aload_n 0] (by decide +kernel) rfl ?_
    refine zV_get (ci := 2) (idx := 9) (k := 0) (N := 2) (fs := [.long x0.1, .long x0.2]) (v := .long x0.1) (Or.inl ho0) rfl z_in2 (by decide) (zT_mem 704 (by decide +kernel) rfl) rfl (by decide +kernel) ?_
    obtain rfl := Option.some.inj h
    exact zV_lret rfl (by decide +kernel) (hQ _ rfl)
  · replace h := zif_neg q1 h
    by_cases q2 : (x1 : Int32) = 1
    · replace h := zif_pos q2 h
      refine zV_lsw (tgt := 33) (off := 32) (dflt := 37) (ps := #[(0, 27), (1, 32)]) (len := 27) (by decide +kernel) (by decide +kernel) (by rw [q2]; decide +kernel) (by decide) ?_
      refine zV_blk (pc' := 34) (lo' := [(0, .ref a0), (1, .int x1)]) (st' := [.ref a0]) [.aload_n 0] (by decide +kernel) rfl ?_
      refine zV_get (ci := 2) (idx := 15) (k := 1) (N := 2) (fs := [.long x0.1, .long x0.2]) (v := .long x0.2) (Or.inl ho0) rfl z_in2 (by decide) (zT_mem 706 (by decide +kernel) rfl) rfl (by decide +kernel) ?_
      obtain rfl := Option.some.inj h
      exact zV_lret rfl (by decide +kernel) (hQ _ rfl)
    · replace h := zif_neg q2 h
      refine zV_lsw (tgt := 38) (off := 37) (dflt := 37) (ps := #[(0, 27), (1, 32)]) (len := 27) (by decide +kernel) (by decide +kernel) (by have nq1 := zne 0 0 (by decide +kernel) q1; have nq2 := zne 1 1 (by decide +kernel) q2; exact zlsw2 nq1 nq2) (by decide) ?_
      refine zV_ldc2 (idx := 18) (v := (-1000000000000000)) (zT_mem 728 (by decide +kernel) rfl) (by decide +kernel) ?_
      obtain rfl := Option.some.inj h
      exact zV_lret rfl (by decide +kernel) (hQ _ rfl)

def k_isMultiple (x0 : Int32) (x1 : Int32) : Option (Bool) := (if (x1 : Int32) ≤ (0 : Int32) then some false else zck (decide (¬ (x1 : Int32) = 0)) ((if ((x0 - x0 / x1 * x1) : Int32) = (0 : Int32) then some true else some false)))
theorem oX7_isMultiple : zO yX7_isMultiple cX7_isMultiple 2 (some .boolean) 2 := ⟨zT_mem 460 (by decide +kernel) rfl, zT_mem 97 (by decide +kernel) rfl, by decide +kernel, by decide +kernel, by decide +kernel⟩
set_option maxHeartbeats 4000000 in
set_option maxRecDepth 100000 in
theorem ck_isMultiple (s0 : State) (D : va_G) (cB cI cJ cD : ClassId) (x0 : Int32) (x1 : Int32) (x : Bool) (h : k_isMultiple x0 x1 = some x) {hi hm : zHp} {nx : Nat} {Q : Option Value → zHp → zHp → Nat → Prop} (hQ0 : Q (some (.int (zb x))) hi hm nx) : zM s0 D (zty cB cI cJ cD) yX7_isMultiple cX7_isMultiple 2 (some .boolean) 0 0 0 0 [.int x0, .int x1] hi hm nx Q := by
  have hQ : ∀ r : Bool, x = r → Q (some (.int (zb r))) hi hm nx := fun r hr => by subst hr; exact hQ0
  clear hQ0
  refine zM_of (by decide +kernel) (Nat.le_of_ble_eq_true rfl) ?_
  unfold k_isMultiple at h
  refine zV_eq (lo2 := [(0, .int x0), (1, .int x1)]) rfl rfl rfl rfl ?_
  refine zV_blk (pc' := 1) (lo' := [(0, .int x0), (1, .int x1)]) (st' := [.int x1]) [.iload_n 1] (by decide +kernel) rfl ?_
  refine zV_if_le (tgt := 14) (off := 13) (by decide +kernel) (by decide) (fun q => ?_) (fun q => ?_)
  · replace h := zif_pos q h
    clear q
    refine zV_blk (pc' := 15) (lo' := [(0, .int x0), (1, .int x1)]) (st' := [.int 0]) [.iconst 0] (by decide +kernel) rfl ?_
    obtain rfl := Option.some.inj h
    refine zV_eq (st2 := [.int (zb false)]) rfl rfl rfl rfl ?_
    exact zV_bret rfl (by decide +kernel) (hQ _ rfl)
  · replace h := zif_neg q h
    clear q
    refine zV_blk (pc' := 6) (lo' := [(0, .int x0), (1, .int x1)]) (st' := [.int x1, .int x0]) [.iload_n 0, .iload_n 1] (by decide +kernel) rfl ?_
    obtain ⟨hz, h⟩ := zck_some h
    refine zV_irem (by decide +kernel) (of_decide_eq_true hz) ?_
    refine zV_if_ne (tgt := 14) (off := 7) (by decide +kernel) (by decide) (fun q => ?_) (fun q => ?_)
    · replace h := zif_neg q h
      clear q
      refine zV_blk (pc' := 15) (lo' := [(0, .int x0), (1, .int x1)]) (st' := [.int 0]) [.iconst 0] (by decide +kernel) rfl ?_
      obtain rfl := Option.some.inj h
      refine zV_eq (st2 := [.int (zb false)]) rfl rfl rfl rfl ?_
      exact zV_bret rfl (by decide +kernel) (hQ _ rfl)
    · replace h := zif_pos q h
      clear q
      refine zV_blk (pc' := 11) (lo' := [(0, .int x0), (1, .int x1)]) (st' := [.int 1]) [.iconst 1] (by decide +kernel) rfl ?_
      refine zV_goto (tgt := 15) (off := 4) (by decide +kernel) (by decide) ?_
      obtain rfl := Option.some.inj h
      refine zV_eq (st2 := [.int (zb true)]) rfl rfl rfl rfl ?_
      exact zV_bret rfl (by decide +kernel) (hQ _ rfl)

def k_sortOf_28 (x0 : Int32) : Option (Int32) := (if (x0 : Int32) = (32 : Int32) then some 1 else (if (x0 : Int32) = (10 : Int32) then some 1 else (if (x0 : Int32) = (59 : Int32) then some 4 else some 0)))
set_option maxHeartbeats 4000000 in
set_option maxRecDepth 100000 in
theorem ck_sortOf_28 (s0 : State) (D : va_G) (cB cI cJ cD : ClassId) (x0 : Int32) {x : Int32} {hi hm : zHp} {nx : Nat} {Q : Option Value → zHp → zHp → Nat → Prop} (h : k_sortOf_28 x0 = some x) (hQ : ∀ r : Int32, x = r → Q (some (.int r)) hi hm nx) : zV s0 D (zty cB cI cJ cD) yX9_sortOf cX9_sortOf 1 (some .int) 0 0 0 0 28 [(0, .int x0)] [] hi hm nx Q := by
  unfold k_sortOf_28 at h
  refine zV_blk (pc' := 31) (lo' := [(0, .int x0)]) (st' := [.int 32, .int x0]) [.iload_n 0, .bipush 32] (by decide +kernel) rfl ?_
  refine zV_icmp_eq (tgt := 40) (off := 9) (by decide +kernel) (by decide) (fun q => ?_) (fun q => ?_)
  · replace h := zif_pos q h
    clear q
    refine zV_blk (pc' := 41) (lo' := [(0, .int x0)]) (st' := [.int 1]) [.iconst 1] (by decide +kernel) rfl ?_
    obtain rfl := Option.some.inj h
    exact zV_iret rfl (by decide +kernel) (hQ _ rfl)
  · replace h := zif_neg q h
    clear q
    refine zV_blk (pc' := 37) (lo' := [(0, .int x0)]) (st' := [.int 10, .int x0]) [.iload_n 0, .bipush 10] (by decide +kernel) rfl ?_
    refine zV_icmp_ne (tgt := 42) (off := 5) (by decide +kernel) (by decide) (fun q => ?_) (fun q => ?_)
    · replace h := zif_neg q h
      clear q
      refine zV_blk (pc' := 45) (lo' := [(0, .int x0)]) (st' := [.int 59, .int x0]) [.iload_n 0, .bipush 59] (by decide +kernel) rfl ?_
      refine zV_icmp_ne (tgt := 52) (off := 7) (by decide +kernel) (by decide) (fun q => ?_) (fun q => ?_)
      · replace h := zif_neg q h
        clear q
        refine zV_blk (pc' := 53) (lo' := [(0, .int x0)]) (st' := [.int 0]) [.iconst 0] (by decide +kernel) rfl ?_
        obtain rfl := Option.some.inj h
        exact zV_iret rfl (by decide +kernel) (hQ _ rfl)
      · replace h := zif_pos q h
        clear q
        refine zV_blk (pc' := 49) (lo' := [(0, .int x0)]) (st' := [.int 4]) [.iconst 4] (by decide +kernel) rfl ?_
        refine zV_goto (tgt := 53) (off := 4) (by decide +kernel) (by decide) ?_
        obtain rfl := Option.some.inj h
        exact zV_iret rfl (by decide +kernel) (hQ _ rfl)
    · replace h := zif_pos q h
      clear q
      refine zV_blk (pc' := 41) (lo' := [(0, .int x0)]) (st' := [.int 1]) [.iconst 1] (by decide +kernel) rfl ?_
      obtain rfl := Option.some.inj h
      exact zV_iret rfl (by decide +kernel) (hQ _ rfl)
def k_sortOf_14 (x0 : Int32) : Option (Int32) := (if (x0 : Int32) < (48 : Int32) then (k_sortOf_28 x0 ) else (if (57 : Int32) < (x0 : Int32) then (k_sortOf_28 x0 ) else some 3))
set_option maxHeartbeats 4000000 in
set_option maxRecDepth 100000 in
theorem ck_sortOf_14 (s0 : State) (D : va_G) (cB cI cJ cD : ClassId) (x0 : Int32) {x : Int32} {hi hm : zHp} {nx : Nat} {Q : Option Value → zHp → zHp → Nat → Prop} (h : k_sortOf_14 x0 = some x) (hQ : ∀ r : Int32, x = r → Q (some (.int r)) hi hm nx) : zV s0 D (zty cB cI cJ cD) yX9_sortOf cX9_sortOf 1 (some .int) 0 0 0 0 14 [(0, .int x0)] [] hi hm nx Q := by
  unfold k_sortOf_14 at h
  refine zV_blk (pc' := 17) (lo' := [(0, .int x0)]) (st' := [.int 48, .int x0]) [.iload_n 0, .bipush 48] (by decide +kernel) rfl ?_
  refine zV_icmp_lt (tgt := 28) (off := 11) (by decide +kernel) (by decide) (fun q => ?_) (fun q => ?_)
  · replace h := zif_pos q h
    clear q
    refine zV_pick (lo2 := [(0, .int x0)]) [0] rfl ?_
    exact ck_sortOf_28 s0 D cB cI cJ cD x0    h hQ
  · replace h := zif_neg q h
    clear q
    refine zV_blk (pc' := 23) (lo' := [(0, .int x0)]) (st' := [.int 57, .int x0]) [.iload_n 0, .bipush 57] (by decide +kernel) rfl ?_
    refine zV_icmp_gt (tgt := 28) (off := 5) (by decide +kernel) (by decide) (fun q => ?_) (fun q => ?_)
    · replace h := zif_pos q h
      clear q
      refine zV_pick (lo2 := [(0, .int x0)]) [0] rfl ?_
      exact ck_sortOf_28 s0 D cB cI cJ cD x0    h hQ
    · replace h := zif_neg q h
      clear q
      refine zV_blk (pc' := 27) (lo' := [(0, .int x0)]) (st' := [.int 3]) [.iconst 3] (by decide +kernel) rfl ?_
      obtain rfl := Option.some.inj h
      exact zV_iret rfl (by decide +kernel) (hQ _ rfl)
def k_sortOf (x0 : Int32) : Option (Int32) := (if (x0 : Int32) < (97 : Int32) then (k_sortOf_14 x0 ) else (if (122 : Int32) < (x0 : Int32) then (k_sortOf_14 x0 ) else some 2))
theorem oX9_sortOf : zO yX9_sortOf cX9_sortOf 1 (some .int) 1 := ⟨zT_mem 344 (by decide +kernel) rfl, zT_mem 95 (by decide +kernel) rfl, by decide +kernel, by decide +kernel, by decide +kernel⟩
set_option maxHeartbeats 4000000 in
set_option maxRecDepth 100000 in
theorem ck_sortOf (s0 : State) (D : va_G) (cB cI cJ cD : ClassId) (x0 : Int32) (x : Int32) (h : k_sortOf x0 = some x) {hi hm : zHp} {nx : Nat} {Q : Option Value → zHp → zHp → Nat → Prop} (hQ0 : Q (some (.int x)) hi hm nx) : zM s0 D (zty cB cI cJ cD) yX9_sortOf cX9_sortOf 1 (some .int) 0 0 0 0 [.int x0] hi hm nx Q := by
  have hQ : ∀ r : Int32, x = r → Q (some (.int r)) hi hm nx := fun r hr => by subst hr; exact hQ0
  clear hQ0
  refine zM_of (by decide +kernel) (Nat.le_of_ble_eq_true rfl) ?_
  unfold k_sortOf at h
  refine zV_eq (lo2 := [(0, .int x0)]) rfl rfl rfl rfl ?_
  refine zV_blk (pc' := 3) (lo' := [(0, .int x0)]) (st' := [.int 97, .int x0]) [.iload_n 0, .bipush 97] (by decide +kernel) rfl ?_
  refine zV_icmp_lt (tgt := 14) (off := 11) (by decide +kernel) (by decide) (fun q => ?_) (fun q => ?_)
  · replace h := zif_pos q h
    clear q
    refine zV_pick (lo2 := [(0, .int x0)]) [0] rfl ?_
    exact ck_sortOf_14 s0 D cB cI cJ cD x0    h hQ
  · replace h := zif_neg q h
    clear q
    refine zV_blk (pc' := 9) (lo' := [(0, .int x0)]) (st' := [.int 122, .int x0]) [.iload_n 0, .bipush 122] (by decide +kernel) rfl ?_
    refine zV_icmp_gt (tgt := 14) (off := 5) (by decide +kernel) (by decide) (fun q => ?_) (fun q => ?_)
    · replace h := zif_pos q h
      clear q
      refine zV_pick (lo2 := [(0, .int x0)]) [0] rfl ?_
      exact ck_sortOf_14 s0 D cB cI cJ cD x0    h hQ
    · replace h := zif_neg q h
      clear q
      refine zV_blk (pc' := 13) (lo' := [(0, .int x0)]) (st' := [.int 2]) [.iconst 2] (by decide +kernel) rfl ?_
      obtain rfl := Option.some.inj h
      exact zV_iret rfl (by decide +kernel) (hQ _ rfl)

def k_yearDays (x0 : vFrame) (x1 : Int32) : Option (Int32) := (if (x1 : Int32) = (0 : Int32) then some x0.1 else some (x0.1 + x0.2.1))
theorem oX3_yearDays : zO yX3_yearDays cX3_yearDays 2 (some .int) 1 := ⟨zT_mem 1049 (by decide +kernel) rfl, zT_mem 106 (by decide +kernel) rfl, by decide +kernel, by decide +kernel, by decide +kernel⟩
set_option maxHeartbeats 4000000 in
set_option maxRecDepth 100000 in
theorem ck_yearDays (s0 : State) (D : va_G) (cB cI cJ cD : ClassId) (x0 : vFrame) (x1 : Int32) (a0 : Nat) (x : Int32) (h : k_yearDays x0 x1 = some x) {hi hm : zHp} {nx : Nat} {Q : Option Value → zHp → zHp → Nat → Prop} (ho0 : iFrame cI hi a0 x0) (hQ0 : Q (some (.int x)) hi hm nx) : zM s0 D (zty cB cI cJ cD) yX3_yearDays cX3_yearDays 2 (some .int) 0 0 0 0 [.ref a0, .int x1] hi hm nx Q := by
  have hQ : ∀ r : Int32, x = r → Q (some (.int r)) hi hm nx := fun r hr => by subst hr; exact hQ0
  clear hQ0
  refine zM_of (by decide +kernel) (Nat.le_of_ble_eq_true rfl) ?_
  unfold k_yearDays at h
  refine zV_eq (lo2 := [(0, .ref a0), (1, .int x1)]) rfl rfl rfl rfl ?_
  refine zV_blk (pc' := 1) (lo' := [(0, .ref a0), (1, .int x1)]) (st' := [.int x1]) [.iload_n 1] (by decide +kernel) rfl ?_
  refine zV_if_eq (tgt := 16) (off := 15) (by decide +kernel) (by decide) (fun q => ?_) (fun q => ?_)
  · replace h := zif_pos q h
    clear q
    refine zV_blk (pc' := 17) (lo' := [(0, .ref a0), (1, .int x1)]) (st' := [.ref a0]) [.aload_n 0] (by decide +kernel) rfl ?_
    obtain ⟨b1, hc2, hb3⟩ := ho0
    refine zV_get (ci := 3) (idx := 7) (k := 0) (N := 6) (fs := [.int x0.1, .int x0.2.1, .ref b1, .int x0.2.2.2.1, .int x0.2.2.2.2.1, .int x0.2.2.2.2.2]) (v := .int x0.1) (Or.inl hc2) rfl z_in3 (by decide) (zT_mem 532 (by decide +kernel) rfl) rfl (by decide +kernel) ?_
    obtain rfl := Option.some.inj h
    exact zV_iret rfl (by decide +kernel) (hQ _ rfl)
  · replace h := zif_neg q h
    clear q
    refine zV_blk (pc' := 5) (lo' := [(0, .ref a0), (1, .int x1)]) (st' := [.ref a0]) [.aload_n 0] (by decide +kernel) rfl ?_
    obtain ⟨b4, hc5, hb6⟩ := ho0
    refine zV_get (ci := 3) (idx := 7) (k := 0) (N := 6) (fs := [.int x0.1, .int x0.2.1, .ref b4, .int x0.2.2.2.1, .int x0.2.2.2.2.1, .int x0.2.2.2.2.2]) (v := .int x0.1) (Or.inl hc5) rfl z_in3 (by decide) (zT_mem 532 (by decide +kernel) rfl) rfl (by decide +kernel) ?_
    refine zV_blk (pc' := 9) (lo' := [(0, .ref a0), (1, .int x1)]) (st' := [.ref a0, .int x0.1]) [.aload_n 0] (by decide +kernel) rfl ?_
    refine zV_get (ci := 3) (idx := 13) (k := 1) (N := 6) (fs := [.int x0.1, .int x0.2.1, .ref b4, .int x0.2.2.2.1, .int x0.2.2.2.2.1, .int x0.2.2.2.2.2]) (v := .int x0.2.1) (Or.inl hc5) rfl z_in3 (by decide) (zT_mem 535 (by decide +kernel) rfl) rfl (by decide +kernel) ?_
    refine zV_blk (pc' := 13) (lo' := [(0, .ref a0), (1, .int x1)]) (st' := [.int (x0.1 + x0.2.1)]) [.iadd] (by decide +kernel) rfl ?_
    refine zV_goto (tgt := 20) (off := 7) (by decide +kernel) (by decide) ?_
    obtain rfl := Option.some.inj h
    exact zV_iret rfl (by decide +kernel) (hQ _ rfl)

def k_hasMonth (x0 : vFrame) (x1 : Int32) : Option (Bool) := (if (x1 : Int32) < (0 : Int32) then some false else (if ((nI x0.2.2.1.1) : Int32) ≤ (x1 : Int32) then some false else some true))
theorem oX3_hasMonth : zO yX3_hasMonth cX3_hasMonth 2 (some .boolean) 1 := ⟨zT_mem 671 (by decide +kernel) rfl, zT_mem 106 (by decide +kernel) rfl, by decide +kernel, by decide +kernel, by decide +kernel⟩
set_option maxHeartbeats 4000000 in
set_option maxRecDepth 100000 in
theorem ck_hasMonth (s0 : State) (D : va_G) (cB cI cJ cD : ClassId) (x0 : vFrame) (x1 : Int32) (a0 : Nat) (x : Bool) (h : k_hasMonth x0 x1 = some x) {hi hm : zHp} {nx : Nat} {Q : Option Value → zHp → zHp → Nat → Prop} (ho0 : iFrame cI hi a0 x0) (hQ0 : Q (some (.int (zb x))) hi hm nx) : zM s0 D (zty cB cI cJ cD) yX3_hasMonth cX3_hasMonth 2 (some .boolean) 0 0 0 0 [.ref a0, .int x1] hi hm nx Q := by
  have hQ : ∀ r : Bool, x = r → Q (some (.int (zb r))) hi hm nx := fun r hr => by subst hr; exact hQ0
  clear hQ0
  refine zM_of (by decide +kernel) (Nat.le_of_ble_eq_true rfl) ?_
  unfold k_hasMonth at h
  refine zV_eq (lo2 := [(0, .ref a0), (1, .int x1)]) rfl rfl rfl rfl ?_
  refine zV_blk (pc' := 1) (lo' := [(0, .ref a0), (1, .int x1)]) (st' := [.int x1]) [.iload_n 1] (by decide +kernel) rfl ?_
  refine zV_if_lt (tgt := 17) (off := 16) (by decide +kernel) (by decide) (fun q => ?_) (fun q => ?_)
  · replace h := zif_pos q h
    clear q
    refine zV_blk (pc' := 18) (lo' := [(0, .ref a0), (1, .int x1)]) (st' := [.int 0]) [.iconst 0] (by decide +kernel) rfl ?_
    obtain rfl := Option.some.inj h
    refine zV_eq (st2 := [.int (zb false)]) rfl rfl rfl rfl ?_
    exact zV_bret rfl (by decide +kernel) (hQ _ rfl)
  · replace h := zif_neg q h
    clear q
    refine zV_blk (pc' := 6) (lo' := [(0, .ref a0), (1, .int x1)]) (st' := [.ref a0, .int x1]) [.iload_n 1, .aload_n 0] (by decide +kernel) rfl ?_
    obtain ⟨b1, hc2, hb3⟩ := ho0
    refine zV_get (ci := 3) (idx := 16) (k := 2) (N := 6) (fs := [.int x0.1, .int x0.2.1, .ref b1, .int x0.2.2.2.1, .int x0.2.2.2.2.1, .int x0.2.2.2.2.2]) (v := .ref b1) (Or.inl hc2) rfl z_in3 (by decide) (zT_mem 538 (by decide +kernel) rfl) rfl (by decide +kernel) ?_
    refine zV_alen 1 (Or.inl hb3) rfl (by decide +kernel) ?_
    refine zV_icmp_ge (tgt := 17) (off := 7) (by decide +kernel) (by decide) (fun q => ?_) (fun q => ?_)
    · replace h := zif_pos q h
      clear q
      refine zV_blk (pc' := 18) (lo' := [(0, .ref a0), (1, .int x1)]) (st' := [.int 0]) [.iconst 0] (by decide +kernel) rfl ?_
      obtain rfl := Option.some.inj h
      refine zV_eq (st2 := [.int (zb false)]) rfl rfl rfl rfl ?_
      exact zV_bret rfl (by decide +kernel) (hQ _ rfl)
    · replace h := zif_neg q h
      clear q
      refine zV_blk (pc' := 14) (lo' := [(0, .ref a0), (1, .int x1)]) (st' := [.int 1]) [.iconst 1] (by decide +kernel) rfl ?_
      refine zV_goto (tgt := 18) (off := 4) (by decide +kernel) (by decide) ?_
      obtain rfl := Option.some.inj h
      refine zV_eq (st2 := [.int (zb true)]) rfl rfl rfl rfl ?_
      exact zV_bret rfl (by decide +kernel) (hQ _ rfl)

def k_monthDays_36 (x0 : vFrame) (x1 : Int32) : Option (Int32) := zck (zin (x1) x0.2.2.1.1) (some (x0.2.2.1.2 (x1 : Int32).toNatClampNeg))
set_option maxHeartbeats 4000000 in
set_option maxRecDepth 100000 in
theorem ck_monthDays_36 (s0 : State) (D : va_G) (cB cI cJ cD : ClassId) (x0 : vFrame) (x1 : Int32) (a0 : Nat) {x : Int32} {hi hm : zHp} {nx : Nat} {Q : Option Value → zHp → zHp → Nat → Prop} (ho0 : iFrame cI hi a0 x0) (h : k_monthDays_36 x0 x1 = some x) (hQ : ∀ r : Int32, x = r → Q (some (.int r)) hi hm nx) : zV s0 D (zty cB cI cJ cD) yX3_monthDays cX3_monthDays 3 (some .int) 1 21 0 0 36 [(0, .ref a0), (1, .int x1)] [] hi hm nx Q := by
  unfold k_monthDays_36 at h
  refine zV_blk (pc' := 37) (lo' := [(0, .ref a0), (1, .int x1)]) (st' := [.ref a0]) [.aload_n 0] (by decide +kernel) rfl ?_
  obtain ⟨b1, hc2, hb3⟩ := ho0
  refine zV_get (ci := 3) (idx := 16) (k := 2) (N := 6) (fs := [.int x0.1, .int x0.2.1, .ref b1, .int x0.2.2.2.1, .int x0.2.2.2.2.1, .int x0.2.2.2.2.2]) (v := .ref b1) (Or.inl hc2) rfl z_in3 (by decide) (zT_mem 538 (by decide +kernel) rfl) rfl (by decide +kernel) ?_
  refine zV_blk (pc' := 41) (lo' := [(0, .ref a0), (1, .int x1)]) (st' := [.int x1, .ref b1]) [.iload_n 1] (by decide +kernel) rfl ?_
  obtain ⟨hz, h⟩ := zck_some h
  refine zV_iald 1 (Or.inl hb3) rfl (zin_in hz) (by decide +kernel) ?_
  obtain rfl := Option.some.inj h
  exact zV_iret rfl (by decide +kernel) (hQ _ rfl)
def k_monthDays (x0 : vFrame) (x1 : Int32) (x2 : Int32) : Option (Int32) := (k_hasMonth x0 x1).bind (fun v1 => (if v1 = true then (if (x2 : Int32) = (0 : Int32) then (k_monthDays_36 x0 x1 ) else (if (x1 : Int32) = (x0.2.2.2.1 : Int32) then zck (zin (x1) x0.2.2.1.1) (some ((x0.2.2.1.2 (x1 : Int32).toNatClampNeg) + x0.2.1)) else (k_monthDays_36 x0 x1 ))) else some 0))
theorem oX3_monthDays : zO yX3_monthDays cX3_monthDays 3 (some .int) 2 := ⟨zT_mem 675 (by decide +kernel) rfl, zT_mem 106 (by decide +kernel) rfl, by decide +kernel, by decide +kernel, by decide +kernel⟩
set_option maxHeartbeats 4000000 in
set_option maxRecDepth 100000 in
theorem ck_monthDays (s0 : State) (D : va_G) (cB cI cJ cD : ClassId) (x0 : vFrame) (x1 : Int32) (x2 : Int32) (a0 : Nat) (x : Int32) (h : k_monthDays x0 x1 x2 = some x) {hi hm : zHp} {nx : Nat} {Q : Option Value → zHp → zHp → Nat → Prop} (ho0 : iFrame cI hi a0 x0) (hQ0 : Q (some (.int x)) hi hm nx) : zM s0 D (zty cB cI cJ cD) yX3_monthDays cX3_monthDays 3 (some .int) 1 21 0 0 [.ref a0, .int x1, .int x2] hi hm nx Q := by
  have hQ : ∀ r : Int32, x = r → Q (some (.int r)) hi hm nx := fun r hr => by subst hr; exact hQ0
  clear hQ0
  refine zM_of (by decide +kernel) (Nat.le_of_ble_eq_true rfl) ?_
  unfold k_monthDays at h
  refine zV_eq (lo2 := [(0, .ref a0), (1, .int x1), (2, .int x2)]) rfl rfl rfl rfl ?_
  refine zV_blk (pc' := 2) (lo' := [(0, .ref a0), (1, .int x1), (2, .int x2)]) (st' := [.int x1, .ref a0]) [.aload_n 0, .iload_n 1] (by decide +kernel) rfl ?_
  obtain ⟨v1, hv1, h⟩ := zbind h
  obtain ⟨b2, hc3, hb4⟩ := ho0
  refine zV_roV (idx := 35) (rest := []) (fs := [.int x0.1, .int x0.2.1, .ref b2, .int x0.2.2.2.1, .int x0.2.2.2.2.1, .int x0.2.2.2.2.2]) (ci := 3) (fun Q2 hQ2 => ck_hasMonth s0 D cB cI cJ cD x0 x1 a0 v1 hv1 ⟨b2, hc3, hb4⟩ hQ2) oX3_hasMonth (Or.inl hc3) rfl (zT_mem 676 (by decide +kernel) rfl) (zT_mem 669 (by decide +kernel) rfl) (zT_mem 670 (by decide +kernel) rfl) rfl rfl (Nat.le_of_ble_eq_true rfl) ⟨by decide, by decide⟩ (by decide +kernel) ?_
  refine zV_eq (st2 := [.int (zb v1)]) rfl rfl rfl rfl ?_
  refine zV_bif_ne (tgt := 10) (off := 5) (by decide +kernel) (by decide) (fun q => ?_) (fun q => ?_)
  · replace h := zif_pos q h
    clear q
    refine zV_blk (pc' := 11) (lo' := [(0, .ref a0), (1, .int x1), (2, .int x2)]) (st' := [.int x2]) [.iload_n 2] (by decide +kernel) rfl ?_
    refine zV_if_eq (tgt := 36) (off := 25) (by decide +kernel) (by decide) (fun q => ?_) (fun q => ?_)
    · replace h := zif_pos q h
      clear q
      refine zV_pick (lo2 := [(0, .ref a0), (1, .int x1)]) [0, 1] rfl ?_
      exact ck_monthDays_36 s0 D cB cI cJ cD x0 x1  a0 ⟨b2, hc3, hb4⟩ h hQ
    · replace h := zif_neg q h
      clear q
      refine zV_blk (pc' := 16) (lo' := [(0, .ref a0), (1, .int x1), (2, .int x2)]) (st' := [.ref a0, .int x1]) [.iload_n 1, .aload_n 0] (by decide +kernel) rfl ?_
      refine zV_get (ci := 3) (idx := 20) (k := 3) (N := 6) (fs := [.int x0.1, .int x0.2.1, .ref b2, .int x0.2.2.2.1, .int x0.2.2.2.2.1, .int x0.2.2.2.2.2]) (v := .int x0.2.2.2.1) (Or.inl hc3) rfl z_in3 (by decide) (zT_mem 540 (by decide +kernel) rfl) rfl (by decide +kernel) ?_
      refine zV_icmp_ne (tgt := 36) (off := 17) (by decide +kernel) (by decide) (fun q => ?_) (fun q => ?_)
      · replace h := zif_neg q h
        clear q
        refine zV_pick (lo2 := [(0, .ref a0), (1, .int x1)]) [0, 1] rfl ?_
        exact ck_monthDays_36 s0 D cB cI cJ cD x0 x1  a0 ⟨b2, hc3, hb4⟩ h hQ
      · replace h := zif_pos q h
        clear q
        refine zV_blk (pc' := 23) (lo' := [(0, .ref a0), (1, .int x1), (2, .int x2)]) (st' := [.ref a0]) [.aload_n 0] (by decide +kernel) rfl ?_
        refine zV_get (ci := 3) (idx := 16) (k := 2) (N := 6) (fs := [.int x0.1, .int x0.2.1, .ref b2, .int x0.2.2.2.1, .int x0.2.2.2.2.1, .int x0.2.2.2.2.2]) (v := .ref b2) (Or.inl hc3) rfl z_in3 (by decide) (zT_mem 538 (by decide +kernel) rfl) rfl (by decide +kernel) ?_
        refine zV_blk (pc' := 27) (lo' := [(0, .ref a0), (1, .int x1), (2, .int x2)]) (st' := [.int x1, .ref b2]) [.iload_n 1] (by decide +kernel) rfl ?_
        obtain ⟨hz, h⟩ := zck_some h
        refine zV_iald 1 (Or.inl hb4) rfl (zin_in hz) (by decide +kernel) ?_
        refine zV_blk (pc' := 29) (lo' := [(0, .ref a0), (1, .int x1), (2, .int x2)]) (st' := [.ref a0, .int (x0.2.2.1.2 (x1 : Int32).toNatClampNeg)]) [.aload_n 0] (by decide +kernel) rfl ?_
        refine zV_get (ci := 3) (idx := 13) (k := 1) (N := 6) (fs := [.int x0.1, .int x0.2.1, .ref b2, .int x0.2.2.2.1, .int x0.2.2.2.2.1, .int x0.2.2.2.2.2]) (v := .int x0.2.1) (Or.inl hc3) rfl z_in3 (by decide) (zT_mem 535 (by decide +kernel) rfl) rfl (by decide +kernel) ?_
        refine zV_blk (pc' := 33) (lo' := [(0, .ref a0), (1, .int x1), (2, .int x2)]) (st' := [.int ((x0.2.2.1.2 (x1 : Int32).toNatClampNeg) + x0.2.1)]) [.iadd] (by decide +kernel) rfl ?_
        refine zV_goto (tgt := 42) (off := 9) (by decide +kernel) (by decide) ?_
        obtain rfl := Option.some.inj h
        exact zV_iret rfl (by decide +kernel) (hQ _ rfl)
  · replace h := zif_neg q h
    clear q
    refine zV_blk (pc' := 9) (lo' := [(0, .ref a0), (1, .int x1), (2, .int x2)]) (st' := [.int 0]) [.iconst 0] (by decide +kernel) rfl ?_
    obtain rfl := Option.some.inj h
    exact zV_iret rfl (by decide +kernel) (hQ _ rfl)

def k_monthOffset_5 (n : Nat) (x0 : vFrame) (x1 : Int32) (x2 : Int32) (s : Int32 × Int32) : Option ((Int32 × Int32) ⊕ (Int32)) := (if (x1 : Int32) ≤ (s.2 : Int32) then some (.inr s.1) else (k_monthDays x0 s.2 x2).bind (fun v1 => some (.inl ((s.1 + v1), (s.2 + 1)))))
set_option maxHeartbeats 4000000 in
set_option maxRecDepth 100000 in
theorem ck_monthOffset_5 (s0 : State) (D : va_G) (cB cI cJ cD : ClassId) (n : Nat) (x0 : vFrame) (x1 : Int32) (x2 : Int32) (a0 : Nat) (s : Int32 × Int32) {x : (Int32 × Int32) ⊕ (Int32)} {hi hm : zHp} {nx : Nat} {Q : Option Value → zHp → zHp → Nat → Prop} (ho0 : iFrame cI hi a0 x0) (h : k_monthOffset_5 n x0 x1 x2 s = some x) (hL5 : ∀ s : Int32 × Int32, x = (.inl s) → zV s0 D (zty cB cI cJ cD) yX3_monthOffset cX3_monthOffset 5 (some .int) 2 43 0 0 5 [(0, .ref a0), (1, .int x1), (2, .int x2), (3, .int s.1), (4, .int s.2)] [] hi hm nx Q) (hQ : ∀ r : Int32, x = (.inr r) → Q (some (.int r)) hi hm nx) : zV s0 D (zty cB cI cJ cD) yX3_monthOffset cX3_monthOffset 5 (some .int) 2 43 0 0 5 [(0, .ref a0), (1, .int x1), (2, .int x2), (3, .int s.1), (4, .int s.2)] [] hi hm nx Q := by
  unfold k_monthOffset_5 at h
  refine zV_blk (pc' := 8) (lo' := [(0, .ref a0), (1, .int x1), (2, .int x2), (3, .int s.1), (4, .int s.2)]) (st' := [.int x1, .int s.2]) [.iload 4, .iload_n 1] (by decide +kernel) rfl ?_
  refine zV_icmp_ge (tgt := 27) (off := 19) (by decide +kernel) (by decide) (fun q => ?_) (fun q => ?_)
  · replace h := zif_pos q h
    clear q
    refine zV_blk (pc' := 28) (lo' := [(0, .ref a0), (1, .int x1), (2, .int x2), (3, .int s.1), (4, .int s.2)]) (st' := [.int s.1]) [.iload_n 3] (by decide +kernel) rfl ?_
    obtain rfl := Option.some.inj h
    exact zV_iret rfl (by decide +kernel) (hQ _ rfl)
  · replace h := zif_neg q h
    clear q
    refine zV_blk (pc' := 16) (lo' := [(0, .ref a0), (1, .int x1), (2, .int x2), (3, .int s.1), (4, .int s.2)]) (st' := [.int x2, .int s.2, .ref a0, .int s.1]) [.iload_n 3, .aload_n 0, .iload 4, .iload_n 2] (by decide +kernel) rfl ?_
    obtain ⟨v1, hv1, h⟩ := zbind h
    obtain ⟨b2, hc3, hb4⟩ := ho0
    refine zV_roV (idx := 39) (rest := [.int s.1]) (fs := [.int x0.1, .int x0.2.1, .ref b2, .int x0.2.2.2.1, .int x0.2.2.2.2.1, .int x0.2.2.2.2.2]) (ci := 3) (fun Q2 hQ2 => ck_monthDays s0 D cB cI cJ cD x0 s.2 x2 a0 v1 hv1 ⟨b2, hc3, hb4⟩ hQ2) oX3_monthDays (Or.inl hc3) rfl (zT_mem 1075 (by decide +kernel) rfl) (zT_mem 673 (by decide +kernel) rfl) (zT_mem 674 (by decide +kernel) rfl) rfl rfl (Nat.le_of_ble_eq_true rfl) ⟨by decide, by decide⟩ (by decide +kernel) ?_
    refine zV_eq (st2 := [.int v1, .int s.1]) rfl rfl rfl rfl ?_
    refine zV_blk (pc' := 24) (lo' := [(4, .int (s.2 + 1)), (3, .int (s.1 + v1)), (0, .ref a0), (1, .int x1), (2, .int x2)]) (st' := []) [.iadd, .istore_n 3, .iinc 4 1] (by decide +kernel) rfl ?_
    refine zV_goto (tgt := 5) (off := -19) (by decide +kernel) (by decide) ?_
    obtain rfl := Option.some.inj h
    refine zV_pick (lo2 := [(0, .ref a0), (1, .int x1), (2, .int x2), (3, .int (s.1 + v1)), (4, .int (s.2 + 1))]) [2, 3, 4, 1, 0] rfl ?_
    exact hL5 _ rfl
theorem ck_monthOffset_5L (s0 : State) (D : va_G) (cB cI cJ cD : ClassId) (n : Nat) (x0 : vFrame) (x1 : Int32) (x2 : Int32) (a0 : Nat) : ∀ (k : Nat) (s : Int32 × Int32) {hi hm : zHp} {nx : Nat} {Q : Option Value → zHp → zHp → Nat → Prop} (ho0 : iFrame cI hi a0 x0) {x : Int32} (_ : zloop (k_monthOffset_5 n x0 x1 x2) k s = some x) (hQ : ∀ r : Int32, x = r → Q (some (.int r)) hi hm nx), zV s0 D (zty cB cI cJ cD) yX3_monthOffset cX3_monthOffset 5 (some .int) 2 43 0 0 5 [(0, .ref a0), (1, .int x1), (2, .int x2), (3, .int s.1), (4, .int s.2)] [] hi hm nx Q
  | 0, s, _, _, _, _, _, _, h, _ => by cases h
  | k + 1, s, hi, hm, nx, Q, ho0, x, h, hQ => by
    obtain ⟨z, hz, h1, h2⟩ := zloop_succ h
    exact ck_monthOffset_5 s0 D cB cI cJ cD n x0 x1 x2 a0 s ho0 hz (fun s' hs => ck_monthOffset_5L s0 D cB cI cJ cD n x0 x1 x2 a0 k s' ho0 (h1 s' hs) hQ) (fun r hr => hQ r (h2 _ hr).symm)
def k_monthOffset (n : Nat) (x0 : vFrame) (x1 : Int32) (x2 : Int32) : Option (Int32) := (zloop (k_monthOffset_5 n x0 x1 x2) n (0, 0))
theorem oX3_monthOffset : zO yX3_monthOffset cX3_monthOffset 5 (some .int) 2 := ⟨zT_mem 1079 (by decide +kernel) rfl, zT_mem 106 (by decide +kernel) rfl, by decide +kernel, by decide +kernel, by decide +kernel⟩
set_option maxHeartbeats 4000000 in
set_option maxRecDepth 100000 in
theorem ck_monthOffset (s0 : State) (D : va_G) (cB cI cJ cD : ClassId) (n : Nat) (x0 : vFrame) (x1 : Int32) (x2 : Int32) (a0 : Nat) (x : Int32) (h : k_monthOffset n x0 x1 x2 = some x) {hi hm : zHp} {nx : Nat} {Q : Option Value → zHp → zHp → Nat → Prop} (ho0 : iFrame cI hi a0 x0) (hQ0 : Q (some (.int x)) hi hm nx) : zM s0 D (zty cB cI cJ cD) yX3_monthOffset cX3_monthOffset 5 (some .int) 2 43 0 0 [.ref a0, .int x1, .int x2] hi hm nx Q := by
  have hQ : ∀ r : Int32, x = r → Q (some (.int r)) hi hm nx := fun r hr => by subst hr; exact hQ0
  clear hQ0
  refine zM_of (by decide +kernel) (Nat.le_of_ble_eq_true rfl) ?_
  unfold k_monthOffset at h
  refine zV_eq (lo2 := [(0, .ref a0), (1, .int x1), (2, .int x2)]) rfl rfl rfl rfl ?_
  refine zV_blk (pc' := 5) (lo' := [(4, .int 0), (3, .int 0), (0, .ref a0), (1, .int x1), (2, .int x2)]) (st' := []) [.iconst 0, .istore_n 3, .iconst 0, .istore 4] (by decide +kernel) rfl ?_
  refine zV_pick (lo2 := [(0, .ref a0), (1, .int x1), (2, .int x2), (3, .int 0), (4, .int 0)]) [2, 3, 4, 1, 0] rfl ?_
  exact ck_monthOffset_5L s0 D cB cI cJ cD n x0 x1 x2 a0 n (0, 0) ho0 h hQ

def k_monthOf_5 (n : Nat) (x0 : vFrame) (x2 : Int32) (s : Int32 × Int32) : Option ((Int32 × Int32) ⊕ (Int32)) := (if (((nI x0.2.2.1.1) - 1) : Int32) ≤ (s.2 : Int32) then some (.inr s.2) else (k_monthDays x0 s.2 x2).bind (fun v4 => (if (s.1 : Int32) < (v4 : Int32) then some (.inr s.2) else (k_monthDays x0 s.2 x2).bind (fun v5 => some (.inl ((s.1 - v5), (s.2 + 1)))))))
set_option maxHeartbeats 4000000 in
set_option maxRecDepth 100000 in
theorem ck_monthOf_5 (s0 : State) (D : va_G) (cB cI cJ cD : ClassId) (n : Nat) (x0 : vFrame) (x2 : Int32) (a0 : Nat) (s : Int32 × Int32) {x : (Int32 × Int32) ⊕ (Int32)} {hi hm : zHp} {nx : Nat} {Q : Option Value → zHp → zHp → Nat → Prop} (ho0 : iFrame cI hi a0 x0) (h : k_monthOf_5 n x0 x2 s = some x) (hL5 : ∀ s : Int32 × Int32, x = (.inl s) → zV s0 D (zty cB cI cJ cD) yX3_monthOf cX3_monthOf 5 (some .int) 2 43 0 0 5 [(0, .ref a0), (2, .int x2), (3, .int s.1), (4, .int s.2)] [] hi hm nx Q) (hQ : ∀ r : Int32, x = (.inr r) → Q (some (.int r)) hi hm nx) : zV s0 D (zty cB cI cJ cD) yX3_monthOf cX3_monthOf 5 (some .int) 2 43 0 0 5 [(0, .ref a0), (2, .int x2), (3, .int s.1), (4, .int s.2)] [] hi hm nx Q := by
  unfold k_monthOf_5 at h
  refine zV_blk (pc' := 8) (lo' := [(0, .ref a0), (2, .int x2), (3, .int s.1), (4, .int s.2)]) (st' := [.ref a0, .int s.2]) [.iload 4, .aload_n 0] (by decide +kernel) rfl ?_
  obtain ⟨b1, hc2, hb3⟩ := ho0
  refine zV_get (ci := 3) (idx := 16) (k := 2) (N := 6) (fs := [.int x0.1, .int x0.2.1, .ref b1, .int x0.2.2.2.1, .int x0.2.2.2.2.1, .int x0.2.2.2.2.2]) (v := .ref b1) (Or.inl hc2) rfl z_in3 (by decide) (zT_mem 538 (by decide +kernel) rfl) rfl (by decide +kernel) ?_
  refine zV_alen 1 (Or.inl hb3) rfl (by decide +kernel) ?_
  refine zV_blk (pc' := 14) (lo' := [(0, .ref a0), (2, .int x2), (3, .int s.1), (4, .int s.2)]) (st' := [.int ((nI x0.2.2.1.1) - 1), .int s.2]) [.iconst 1, .isub] (by decide +kernel) rfl ?_
  refine zV_icmp_ge (tgt := 44) (off := 30) (by decide +kernel) (by decide) (fun q => ?_) (fun q => ?_)
  · replace h := zif_pos q h
    clear q
    refine zV_blk (pc' := 46) (lo' := [(0, .ref a0), (2, .int x2), (3, .int s.1), (4, .int s.2)]) (st' := [.int s.2]) [.iload 4] (by decide +kernel) rfl ?_
    obtain rfl := Option.some.inj h
    exact zV_iret rfl (by decide +kernel) (hQ _ rfl)
  · replace h := zif_neg q h
    clear q
    refine zV_blk (pc' := 22) (lo' := [(0, .ref a0), (2, .int x2), (3, .int s.1), (4, .int s.2)]) (st' := [.int x2, .int s.2, .ref a0, .int s.1]) [.iload_n 3, .aload_n 0, .iload 4, .iload_n 2] (by decide +kernel) rfl ?_
    obtain ⟨v4, hv4, h⟩ := zbind h
    refine zV_roV (idx := 39) (rest := [.int s.1]) (fs := [.int x0.1, .int x0.2.1, .ref b1, .int x0.2.2.2.1, .int x0.2.2.2.2.1, .int x0.2.2.2.2.2]) (ci := 3) (fun Q2 hQ2 => ck_monthDays s0 D cB cI cJ cD x0 s.2 x2 a0 v4 hv4 ⟨b1, hc2, hb3⟩ hQ2) oX3_monthDays (Or.inl hc2) rfl (zT_mem 1075 (by decide +kernel) rfl) (zT_mem 673 (by decide +kernel) rfl) (zT_mem 674 (by decide +kernel) rfl) rfl rfl (Nat.le_of_ble_eq_true rfl) ⟨by decide, by decide⟩ (by decide +kernel) ?_
    refine zV_eq (st2 := [.int v4, .int s.1]) rfl rfl rfl rfl ?_
    refine zV_icmp_lt (tgt := 44) (off := 19) (by decide +kernel) (by decide) (fun q => ?_) (fun q => ?_)
    · replace h := zif_pos q h
      clear q
      refine zV_blk (pc' := 46) (lo' := [(0, .ref a0), (2, .int x2), (3, .int s.1), (4, .int s.2)]) (st' := [.int s.2]) [.iload 4] (by decide +kernel) rfl ?_
      obtain rfl := Option.some.inj h
      exact zV_iret rfl (by decide +kernel) (hQ _ rfl)
    · replace h := zif_neg q h
      clear q
      refine zV_blk (pc' := 33) (lo' := [(0, .ref a0), (2, .int x2), (3, .int s.1), (4, .int s.2)]) (st' := [.int x2, .int s.2, .ref a0, .int s.1]) [.iload_n 3, .aload_n 0, .iload 4, .iload_n 2] (by decide +kernel) rfl ?_
      obtain ⟨v5, hv5, h⟩ := zbind h
      refine zV_roV (idx := 39) (rest := [.int s.1]) (fs := [.int x0.1, .int x0.2.1, .ref b1, .int x0.2.2.2.1, .int x0.2.2.2.2.1, .int x0.2.2.2.2.2]) (ci := 3) (fun Q2 hQ2 => ck_monthDays s0 D cB cI cJ cD x0 s.2 x2 a0 v5 hv5 ⟨b1, hc2, hb3⟩ hQ2) oX3_monthDays (Or.inl hc2) rfl (zT_mem 1075 (by decide +kernel) rfl) (zT_mem 673 (by decide +kernel) rfl) (zT_mem 674 (by decide +kernel) rfl) rfl rfl (Nat.le_of_ble_eq_true rfl) ⟨by decide, by decide⟩ (by decide +kernel) ?_
      refine zV_eq (st2 := [.int v5, .int s.1]) rfl rfl rfl rfl ?_
      refine zV_blk (pc' := 41) (lo' := [(4, .int (s.2 + 1)), (3, .int (s.1 - v5)), (0, .ref a0), (2, .int x2)]) (st' := []) [.isub, .istore_n 3, .iinc 4 1] (by decide +kernel) rfl ?_
      refine zV_goto (tgt := 5) (off := -36) (by decide +kernel) (by decide) ?_
      obtain rfl := Option.some.inj h
      refine zV_pick (lo2 := [(0, .ref a0), (2, .int x2), (3, .int (s.1 - v5)), (4, .int (s.2 + 1))]) [2, 3, 1, 0] rfl ?_
      exact hL5 _ rfl
theorem ck_monthOf_5L (s0 : State) (D : va_G) (cB cI cJ cD : ClassId) (n : Nat) (x0 : vFrame) (x2 : Int32) (a0 : Nat) : ∀ (k : Nat) (s : Int32 × Int32) {hi hm : zHp} {nx : Nat} {Q : Option Value → zHp → zHp → Nat → Prop} (ho0 : iFrame cI hi a0 x0) {x : Int32} (_ : zloop (k_monthOf_5 n x0 x2) k s = some x) (hQ : ∀ r : Int32, x = r → Q (some (.int r)) hi hm nx), zV s0 D (zty cB cI cJ cD) yX3_monthOf cX3_monthOf 5 (some .int) 2 43 0 0 5 [(0, .ref a0), (2, .int x2), (3, .int s.1), (4, .int s.2)] [] hi hm nx Q
  | 0, s, _, _, _, _, _, _, h, _ => by cases h
  | k + 1, s, hi, hm, nx, Q, ho0, x, h, hQ => by
    obtain ⟨z, hz, h1, h2⟩ := zloop_succ h
    exact ck_monthOf_5 s0 D cB cI cJ cD n x0 x2 a0 s ho0 hz (fun s' hs => ck_monthOf_5L s0 D cB cI cJ cD n x0 x2 a0 k s' ho0 (h1 s' hs) hQ) (fun r hr => hQ r (h2 _ hr).symm)
def k_monthOf (n : Nat) (x0 : vFrame) (x1 : Int32) (x2 : Int32) : Option (Int32) := (zloop (k_monthOf_5 n x0 x2) n (x1, 0))
theorem oX3_monthOf : zO yX3_monthOf cX3_monthOf 5 (some .int) 2 := ⟨zT_mem 1074 (by decide +kernel) rfl, zT_mem 106 (by decide +kernel) rfl, by decide +kernel, by decide +kernel, by decide +kernel⟩
set_option maxHeartbeats 4000000 in
set_option maxRecDepth 100000 in
theorem ck_monthOf (s0 : State) (D : va_G) (cB cI cJ cD : ClassId) (n : Nat) (x0 : vFrame) (x1 : Int32) (x2 : Int32) (a0 : Nat) (x : Int32) (h : k_monthOf n x0 x1 x2 = some x) {hi hm : zHp} {nx : Nat} {Q : Option Value → zHp → zHp → Nat → Prop} (ho0 : iFrame cI hi a0 x0) (hQ0 : Q (some (.int x)) hi hm nx) : zM s0 D (zty cB cI cJ cD) yX3_monthOf cX3_monthOf 5 (some .int) 2 43 0 0 [.ref a0, .int x1, .int x2] hi hm nx Q := by
  have hQ : ∀ r : Int32, x = r → Q (some (.int r)) hi hm nx := fun r hr => by subst hr; exact hQ0
  clear hQ0
  refine zM_of (by decide +kernel) (Nat.le_of_ble_eq_true rfl) ?_
  unfold k_monthOf at h
  refine zV_eq (lo2 := [(0, .ref a0), (1, .int x1), (2, .int x2)]) rfl rfl rfl rfl ?_
  refine zV_blk (pc' := 5) (lo' := [(4, .int 0), (3, .int x1), (0, .ref a0), (1, .int x1), (2, .int x2)]) (st' := []) [.iload_n 1, .istore_n 3, .iconst 0, .istore 4] (by decide +kernel) rfl ?_
  refine zV_pick (lo2 := [(0, .ref a0), (2, .int x2), (3, .int x1), (4, .int 0)]) [2, 4, 1, 0] rfl ?_
  exact ck_monthOf_5L s0 D cB cI cJ cD n x0 x2 a0 n (x1, 0) ho0 h hQ

def k_hasLongestDay (x0 : vFrame) (x1 : Int32) (x2 : Int32) : Option (Bool) := (k_hasMonth x0 x1).bind (fun v1 => (if v1 = true then (if (x2 : Int32) < (0 : Int32) then some false else (k_monthDays x0 x1 1).bind (fun v5 => (if (v5 : Int32) ≤ (x2 : Int32) then some false else some true))) else some false))
theorem oX3_hasLongestDay : zO yX3_hasLongestDay cX3_hasLongestDay 3 (some .boolean) 2 := ⟨zT_mem 1239 (by decide +kernel) rfl, zT_mem 106 (by decide +kernel) rfl, by decide +kernel, by decide +kernel, by decide +kernel⟩
set_option maxHeartbeats 4000000 in
set_option maxRecDepth 100000 in
theorem ck_hasLongestDay (s0 : State) (D : va_G) (cB cI cJ cD : ClassId) (x0 : vFrame) (x1 : Int32) (x2 : Int32) (a0 : Nat) (x : Bool) (h : k_hasLongestDay x0 x1 x2 = some x) {hi hm : zHp} {nx : Nat} {Q : Option Value → zHp → zHp → Nat → Prop} (ho0 : iFrame cI hi a0 x0) (hQ0 : Q (some (.int (zb x))) hi hm nx) : zM s0 D (zty cB cI cJ cD) yX3_hasLongestDay cX3_hasLongestDay 3 (some .boolean) 2 43 0 0 [.ref a0, .int x1, .int x2] hi hm nx Q := by
  have hQ : ∀ r : Bool, x = r → Q (some (.int (zb r))) hi hm nx := fun r hr => by subst hr; exact hQ0
  clear hQ0
  refine zM_of (by decide +kernel) (Nat.le_of_ble_eq_true rfl) ?_
  unfold k_hasLongestDay at h
  refine zV_eq (lo2 := [(0, .ref a0), (1, .int x1), (2, .int x2)]) rfl rfl rfl rfl ?_
  refine zV_blk (pc' := 2) (lo' := [(0, .ref a0), (1, .int x1), (2, .int x2)]) (st' := [.int x1, .ref a0]) [.aload_n 0, .iload_n 1] (by decide +kernel) rfl ?_
  obtain ⟨v1, hv1, h⟩ := zbind h
  obtain ⟨b2, hc3, hb4⟩ := ho0
  refine zV_roV (idx := 35) (rest := []) (fs := [.int x0.1, .int x0.2.1, .ref b2, .int x0.2.2.2.1, .int x0.2.2.2.2.1, .int x0.2.2.2.2.2]) (ci := 3) (fun Q2 hQ2 => ck_hasMonth s0 D cB cI cJ cD x0 x1 a0 v1 hv1 ⟨b2, hc3, hb4⟩ hQ2) oX3_hasMonth (Or.inl hc3) rfl (zT_mem 676 (by decide +kernel) rfl) (zT_mem 669 (by decide +kernel) rfl) (zT_mem 670 (by decide +kernel) rfl) rfl rfl (Nat.le_of_ble_eq_true rfl) ⟨by decide, by decide⟩ (by decide +kernel) ?_
  refine zV_eq (st2 := [.int (zb v1)]) rfl rfl rfl rfl ?_
  refine zV_bif_eq (tgt := 26) (off := 21) (by decide +kernel) (by decide) (fun q => ?_) (fun q => ?_)
  · replace h := zif_neg q h
    clear q
    refine zV_blk (pc' := 27) (lo' := [(0, .ref a0), (1, .int x1), (2, .int x2)]) (st' := [.int 0]) [.iconst 0] (by decide +kernel) rfl ?_
    obtain rfl := Option.some.inj h
    refine zV_eq (st2 := [.int (zb false)]) rfl rfl rfl rfl ?_
    exact zV_bret rfl (by decide +kernel) (hQ _ rfl)
  · replace h := zif_pos q h
    clear q
    refine zV_blk (pc' := 9) (lo' := [(0, .ref a0), (1, .int x1), (2, .int x2)]) (st' := [.int x2]) [.iload_n 2] (by decide +kernel) rfl ?_
    refine zV_if_lt (tgt := 26) (off := 17) (by decide +kernel) (by decide) (fun q => ?_) (fun q => ?_)
    · replace h := zif_pos q h
      clear q
      refine zV_blk (pc' := 27) (lo' := [(0, .ref a0), (1, .int x1), (2, .int x2)]) (st' := [.int 0]) [.iconst 0] (by decide +kernel) rfl ?_
      obtain rfl := Option.some.inj h
      refine zV_eq (st2 := [.int (zb false)]) rfl rfl rfl rfl ?_
      exact zV_bret rfl (by decide +kernel) (hQ _ rfl)
    · replace h := zif_neg q h
      clear q
      refine zV_blk (pc' := 16) (lo' := [(0, .ref a0), (1, .int x1), (2, .int x2)]) (st' := [.int 1, .int x1, .ref a0, .int x2]) [.iload_n 2, .aload_n 0, .iload_n 1, .iconst 1] (by decide +kernel) rfl ?_
      obtain ⟨v5, hv5, h⟩ := zbind h
      refine zV_roV (idx := 39) (rest := [.int x2]) (fs := [.int x0.1, .int x0.2.1, .ref b2, .int x0.2.2.2.1, .int x0.2.2.2.2.1, .int x0.2.2.2.2.2]) (ci := 3) (fun Q2 hQ2 => ck_monthDays s0 D cB cI cJ cD x0 x1 1 a0 v5 hv5 ⟨b2, hc3, hb4⟩ hQ2) oX3_monthDays (Or.inl hc3) rfl (zT_mem 1075 (by decide +kernel) rfl) (zT_mem 673 (by decide +kernel) rfl) (zT_mem 674 (by decide +kernel) rfl) rfl rfl (Nat.le_of_ble_eq_true rfl) ⟨by decide, by decide⟩ (by decide +kernel) ?_
      refine zV_eq (st2 := [.int v5, .int x2]) rfl rfl rfl rfl ?_
      refine zV_icmp_ge (tgt := 26) (off := 7) (by decide +kernel) (by decide) (fun q => ?_) (fun q => ?_)
      · replace h := zif_pos q h
        clear q
        refine zV_blk (pc' := 27) (lo' := [(0, .ref a0), (1, .int x1), (2, .int x2)]) (st' := [.int 0]) [.iconst 0] (by decide +kernel) rfl ?_
        obtain rfl := Option.some.inj h
        refine zV_eq (st2 := [.int (zb false)]) rfl rfl rfl rfl ?_
        exact zV_bret rfl (by decide +kernel) (hQ _ rfl)
      · replace h := zif_neg q h
        clear q
        refine zV_blk (pc' := 23) (lo' := [(0, .ref a0), (1, .int x1), (2, .int x2)]) (st' := [.int 1]) [.iconst 1] (by decide +kernel) rfl ?_
        refine zV_goto (tgt := 27) (off := 4) (by decide +kernel) (by decide) ?_
        obtain rfl := Option.some.inj h
        refine zV_eq (st2 := [.int (zb true)]) rfl rfl rfl rfl ?_
        exact zV_bret rfl (by decide +kernel) (hQ _ rfl)

