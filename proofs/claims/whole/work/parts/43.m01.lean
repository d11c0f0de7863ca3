theorem m_in12 : ∀ w ∈ u_ws RX12 TX12 26, w ∈ zT := zT_all _ [1466, 1468, 1470, 1472, 1474, 1476, 1478, 1480, 1482, 1484, 1486, 1488, 1490, 1492, 1494, 1496, 1498, 1500, 1502, 1504, 1506, 1508, 1510, 1512, 1514, 1516] (by decide +kernel) (by decide +kernel)
def misIn (x0 : Int64) (x2 : Int64) (x4 : Int64) : Option (Bool) := (if (x0 : Int64) < (x2 : Int64) then some false else (if (x4 : Int64) < (x0 : Int64) then some false else some true))
theorem oX12_isIn : zO yX12_isIn cX12_isIn 6 (some .boolean) 3 := ⟨zT_mem 1533 (by decide +kernel) rfl, zT_mem 94 (by decide +kernel) rfl, by decide +kernel, by decide +kernel, by decide +kernel⟩
set_option maxHeartbeats 4000000 in
set_option maxRecDepth 100000 in
theorem cmisIn (s0 : State) (D : va_G) (cB cI cJ cD : ClassId) (x0 : Int64) (x2 : Int64) (x4 : Int64) (x : Bool) (h : misIn x0 x2 x4 = some x) : sC s0 D (zty cB cI cJ cD) yX12_isIn cX12_isIn 6 (some .boolean) 0 0 [.long x0, .long x2, .long x4] (.int (zb x)) := by
  intro hi hm nx Q hQ0
  have hQ : ∀ r : Bool, x = r → Q (some (.int (zb r))) hi hm nx := fun r hr => by subst hr; exact hQ0
  refine zM_of (by decide +kernel) (Nat.le_of_ble_eq_true rfl) ?_
  unfold misIn at h
  refine zV_eq (lo2 := [(0, .long x0), (2, .long x2), (4, .long x4)]) rfl rfl rfl rfl ?_
  refine zV_blk (pc' := 3) (lo' := [(0, .long x0), (2, .long x2), (4, .long x4)]) (st' := [.int (lg_cmp x0 x2)]) [.lload_n 0, .lload_n 2, .lcmp] (by decide +kernel) rfl ?_
  refine zV_lcmp_lt (tgt := 17) (off := 14) (by decide +kernel) (by decide) (fun q => ?_) (fun q => ?_)
  · replace h := zif_pos q h
    clear q
    refine zV_blk (pc' := 18) (lo' := [(0, .long x0), (2, .long x2), (4, .long x4)]) (st' := [.int 0]) [.iconst 0] (by decide +kernel) rfl ?_
    obtain rfl := Option.some.inj h
    refine zV_eq (st2 := [.int (zb false)]) rfl rfl rfl rfl ?_
    exact zV_bret rfl (by decide +kernel) (hQ _ rfl)
  · replace h := zif_neg q h
    clear q
    refine zV_blk (pc' := 10) (lo' := [(0, .long x0), (2, .long x2), (4, .long x4)]) (st' := [.int (lg_cmp x0 x4)]) [.lload_n 0, .lload 4, .lcmp] (by decide +kernel) rfl ?_
    refine zV_lcmp_gt (tgt := 17) (off := 7) (by decide +kernel) (by decide) (fun q => ?_) (fun q => ?_)
    · replace h := zif_pos q h
      clear q
      refine zV_blk (pc' := 18) (lo' := [(0, .long x0), (2, .long x2), (4, .long x4)]) (st' := [.int 0]) [.iconst 0] (by decide +kernel) rfl ?_
      obtain rfl := Option.some.inj h
      refine zV_eq (st2 := [.int (zb false)]) rfl rfl rfl rfl ?_
      exact zV_bret rfl (by decide +kernel) (hQ _ rfl)
    · replace h := zif_neg q h
      clear q
      refine zV_blk (pc' := 14) (lo' := [(0, .long x0), (2, .long x2), (4, .long x4)]) (st' := [.int 1]) [.iconst 1] (by decide +kernel) rfl ?_
      refine zV_goto (tgt := 18) (off := 4) (by decide +kernel) (by decide) ?_
      obtain rfl := Option.some.inj h
      refine zV_eq (st2 := [.int (zb true)]) rfl rfl rfl rfl ?_
      exact zV_bret rfl (by decide +kernel) (hQ _ rfl)

def mflag (x0 : Int32) : Option (Int32) := (if (x0 : Int32) = (0 : Int32) then some 0 else some 1)
theorem oX12_flag : zO yX12_flag cX12_flag 1 (some .int) 1 := ⟨zT_mem 1824 (by decide +kernel) rfl, zT_mem 94 (by decide +kernel) rfl, by decide +kernel, by decide +kernel, by decide +kernel⟩
set_option maxHeartbeats 4000000 in
set_option maxRecDepth 100000 in
theorem cmflag (s0 : State) (D : va_G) (cB cI cJ cD : ClassId) (x0 : Int32) (x : Int32) (h : mflag x0 = some x) : sC s0 D (zty cB cI cJ cD) yX12_flag cX12_flag 1 (some .int) 0 0 [.int x0] (.int x) := by
  intro hi hm nx Q hQ0
  have hQ : ∀ r : Int32, x = r → Q (some (.int r)) hi hm nx := fun r hr => by subst hr; exact hQ0
  refine zM_of (by decide +kernel) (Nat.le_of_ble_eq_true rfl) ?_
  unfold mflag at h
  refine zV_eq (lo2 := [(0, .int x0)]) rfl rfl rfl rfl ?_
  refine zV_blk (pc' := 1) (lo' := [(0, .int x0)]) (st' := [.int x0]) [.iload_n 0] (by decide +kernel) rfl ?_
  refine zV_if_eq (tgt := 8) (off := 7) (by decide +kernel) (by decide) (fun q => ?_) (fun q => ?_)
  · replace h := zif_pos q h
    clear q
    refine zV_blk (pc' := 9) (lo' := [(0, .int x0)]) (st' := [.int 0]) [.iconst 0] (by decide +kernel) rfl ?_
    obtain rfl := Option.some.inj h
    exact zV_iret rfl (by decide +kernel) (hQ _ rfl)
  · replace h := zif_neg q h
    clear q
    refine zV_blk (pc' := 5) (lo' := [(0, .int x0)]) (st' := [.int 1]) [.iconst 1] (by decide +kernel) rfl ?_
    refine zV_goto (tgt := 9) (off := 4) (by decide +kernel) (by decide) ?_
    obtain rfl := Option.some.inj h
    exact zV_iret rfl (by decide +kernel) (hQ _ rfl)

def msize (x0 : Int64) : Option (Int64) := (if (0 : Int64) ≤ (x0 : Int64) then some x0 else some (-x0))
theorem oX12_size : zO yX12_size cX12_size 2 (some .long) 1 := ⟨zT_mem 1741 (by decide +kernel) rfl, zT_mem 94 (by decide +kernel) rfl, by decide +kernel, by decide +kernel, by decide +kernel⟩
set_option maxHeartbeats 4000000 in
set_option maxRecDepth 100000 in
theorem cmsize (s0 : State) (D : va_G) (cB cI cJ cD : ClassId) (x0 : Int64) (x : Int64) (h : msize x0 = some x) : sC s0 D (zty cB cI cJ cD) yX12_size cX12_size 2 (some .long) 0 0 [.long x0] (.long x) := by
  intro hi hm nx Q hQ0
  have hQ : ∀ r : Int64, x = r → Q (some (.long r)) hi hm nx := fun r hr => by subst hr; exact hQ0
  refine zM_of (by decide +kernel) (Nat.le_of_ble_eq_true rfl) ?_
  unfold msize at h
  refine zV_eq (lo2 := [(0, .long x0)]) rfl rfl rfl rfl ?_
  refine zV_blk (pc' := 3) (lo' := [(0, .long x0)]) (st' := [.int (lg_cmp x0 0)]) [.lload_n 0, .lconst 0, .lcmp] (by decide +kernel) rfl ?_
  refine zV_lcmp_ge (tgt := 11) (off := 8) (by decide +kernel) (by decide) (fun q => ?_) (fun q => ?_)
  · replace h := zif_pos q h
    clear q
    refine zV_blk (pc' := 12) (lo' := [(0, .long x0)]) (st' := [.long x0]) [.lload_n 0] (by decide +kernel) rfl ?_
    obtain rfl := Option.some.inj h
    exact zV_lret rfl (by decide +kernel) (hQ _ rfl)
  · replace h := zif_neg q h
    clear q
    refine zV_blk (pc' := 8) (lo' := [(0, .long x0)]) (st' := [.long (-x0)]) [.lload_n 0, .lneg] (by decide +kernel) rfl ?_
    refine zV_goto (tgt := 12) (off := 4) (by decide +kernel) (by decide) ?_
    obtain rfl := Option.some.inj h
    exact zV_lret rfl (by decide +kernel) (hQ _ rfl)

def mfloor (x0 : Int64) (x2 : Int64) : Option (Int64) := zck (decide (¬ (x2 : Int64) = 0)) (zck (decide (¬ (x2 : Int64) = 0)) ((if (0 : Int64) ≤ ((x0 - x0 / x2 * x2) : Int64) then some (x0 / x2) else some ((x0 / x2) - 1))))
theorem oX12_floor : zO yX12_floor cX12_floor 6 (some .long) 2 := ⟨zT_mem 1700 (by decide +kernel) rfl, zT_mem 94 (by decide +kernel) rfl, by decide +kernel, by decide +kernel, by decide +kernel⟩
set_option maxHeartbeats 4000000 in
set_option maxRecDepth 100000 in
theorem cmfloor (s0 : State) (D : va_G) (cB cI cJ cD : ClassId) (x0 : Int64) (x2 : Int64) (x : Int64) (h : mfloor x0 x2 = some x) : sC s0 D (zty cB cI cJ cD) yX12_floor cX12_floor 6 (some .long) 0 0 [.long x0, .long x2] (.long x) := by
  intro hi hm nx Q hQ0
  have hQ : ∀ r : Int64, x = r → Q (some (.long r)) hi hm nx := fun r hr => by subst hr; exact hQ0
  refine zM_of (by decide +kernel) (Nat.le_of_ble_eq_true rfl) ?_
  unfold mfloor at h
  refine zV_eq (lo2 := [(0, .long x0), (2, .long x2)]) rfl rfl rfl rfl ?_
  refine zV_blk (pc' := 2) (lo' := [(0, .long x0), (2, .long x2)]) (st' := [.long x2, .long x0]) [.lload_n 0, .lload_n 2] (by decide +kernel) rfl ?_
  obtain ⟨hz, h⟩ := zck_some h
  refine zV_ldiv (by decide +kernel) (of_decide_eq_true hz) ?_
  refine zV_blk (pc' := 7) (lo' := [(4, .long (x0 / x2)), (0, .long x0), (2, .long x2)]) (st' := [.long x2, .long x0]) [.lstore 4, .lload_n 0, .lload_n 2] (by decide +kernel) rfl ?_
  obtain ⟨hz, h⟩ := zck_some h
  refine zV_lrem (by decide +kernel) (of_decide_eq_true hz) ?_
  refine zV_blk (pc' := 10) (lo' := [(4, .long (x0 / x2)), (0, .long x0), (2, .long x2)]) (st' := [.int (lg_cmp (x0 - x0 / x2 * x2) 0)]) [.lconst 0, .lcmp] (by decide +kernel) rfl ?_
  refine zV_lcmp_ge (tgt := 20) (off := 10) (by decide +kernel) (by decide) (fun q => ?_) (fun q => ?_)
  · replace h := zif_pos q h
    clear q
    refine zV_blk (pc' := 22) (lo' := [(4, .long (x0 / x2)), (0, .long x0), (2, .long x2)]) (st' := [.long (x0 / x2)]) [.lload 4] (by decide +kernel) rfl ?_
    obtain rfl := Option.some.inj h
    exact zV_lret rfl (by decide +kernel) (hQ _ rfl)
  · replace h := zif_neg q h
    clear q
    refine zV_blk (pc' := 17) (lo' := [(4, .long (x0 / x2)), (0, .long x0), (2, .long x2)]) (st' := [.long ((x0 / x2) - 1)]) [.lload 4, .lconst 1, .lsub] (by decide +kernel) rfl ?_
    refine zV_goto (tgt := 22) (off := 5) (by decide +kernel) (by decide) ?_
    obtain rfl := Option.some.inj h
    exact zV_lret rfl (by decide +kernel) (hQ _ rfl)

def mrest (x0 : Int64) (x2 : Int64) : Option (Int64) := (mfloor x0 x2).bind (fun v1 => some (x0 - (x2 * v1)))
theorem oX12_rest : zO yX12_rest cX12_rest 4 (some .long) 2 := ⟨zT_mem 1703 (by decide +kernel) rfl, zT_mem 94 (by decide +kernel) rfl, by decide +kernel, by decide +kernel, by decide +kernel⟩
set_option maxHeartbeats 4000000 in
set_option maxRecDepth 100000 in
theorem cmrest (s0 : State) (D : va_G) (cB cI cJ cD : ClassId) (x0 : Int64) (x2 : Int64) (x : Int64) (h : mrest x0 x2 = some x) : sC s0 D (zty cB cI cJ cD) yX12_rest cX12_rest 4 (some .long) 1 25 [.long x0, .long x2] (.long x) := by
  intro hi hm nx Q hQ0
  have hQ : ∀ r : Int64, x = r → Q (some (.long r)) hi hm nx := fun r hr => by subst hr; exact hQ0
  refine zM_of (by decide +kernel) (Nat.le_of_ble_eq_true rfl) ?_
  unfold mrest at h
  refine zV_eq (lo2 := [(0, .long x0), (2, .long x2)]) rfl rfl rfl rfl ?_
  refine zV_blk (pc' := 4) (lo' := [(0, .long x0), (2, .long x2)]) (st' := [.long x2, .long x0, .long x2, .long x0]) [.lload_n 0, .lload_n 2, .lload_n 0, .lload_n 2] (by decide +kernel) rfl ?_
  obtain ⟨v1, hv1, h⟩ := zbind h
  refine zV_sC (idx := 28) (rest := [.long x2, .long x0]) (cmfloor s0 D cB cI cJ cD x0 x2 v1 hv1) oX12_floor (zT_mem 1698 (by decide +kernel) rfl) (zT_mem 1699 (by decide +kernel) rfl) rfl rfl (Nat.le_of_ble_eq_true rfl) ⟨by decide, by decide⟩ (by decide +kernel) ?_
  refine zV_eq (st2 := [.long v1, .long x2, .long x0]) rfl rfl rfl rfl ?_
  refine zV_blk (pc' := 9) (lo' := [(0, .long x0), (2, .long x2)]) (st' := [.long (x0 - (x2 * v1))]) [.lmul, .lsub] (by decide +kernel) rfl ?_
  obtain rfl := Option.some.inj h
  exact zV_lret rfl (by decide +kernel) (hQ _ rfl)

def mgcd_12 (n : Nat) (s : Int64 × Int64) : Option ((Int64 × Int64) ⊕ (Int64)) := (if (s.2 : Int64) = (0 : Int64) then some (.inr s.1) else zck (decide (¬ (s.2 : Int64) = 0)) (some (.inl (s.2, (s.1 - s.1 / s.2 * s.2)))))
set_option maxHeartbeats 4000000 in
set_option maxRecDepth 100000 in
theorem cmgcd_12 (s0 : State) (D : va_G) (cB cI cJ cD : ClassId) (n : Nat) (s : Int64 × Int64) (x : (Int64 × Int64) ⊕ (Int64)) {hi hm : zHp} {nx : Nat} {Q : Option Value → zHp → zHp → Nat → Prop} (h : mgcd_12 n s = some x) (hL12 : ∀ s : Int64 × Int64, x = (.inl s) → zV s0 D (zty cB cI cJ cD) yX12_gcd cX12_gcd 10 (some .long) 1 21 0 0 12 [(4, .long s.1), (6, .long s.2)] [] hi hm nx Q) (hQ : ∀ r : Int64, x = (.inr r) → Q (some (.long r)) hi hm nx) : zV s0 D (zty cB cI cJ cD) yX12_gcd cX12_gcd 10 (some .long) 1 21 0 0 12 [(4, .long s.1), (6, .long s.2)] [] hi hm nx Q := by
  unfold mgcd_12 at h
  refine zV_blk (pc' := 16) (lo' := [(4, .long s.1), (6, .long s.2)]) (st' := [.int (lg_cmp s.2 0)]) [.lload 6, .lconst 0, .lcmp] (by decide +kernel) rfl ?_
  refine zV_lcmp_eq (tgt := 37) (off := 21) (by decide +kernel) (by decide) (fun q => ?_) (fun q => ?_)
  · replace h := zif_pos q h
    clear q
    refine zV_blk (pc' := 39) (lo' := [(4, .long s.1), (6, .long s.2)]) (st' := [.long s.1]) [.lload 4] (by decide +kernel) rfl ?_
    obtain rfl := Option.some.inj h
    exact zV_lret rfl (by decide +kernel) (hQ _ rfl)
  · replace h := zif_neg q h
    clear q
    refine zV_blk (pc' := 23) (lo' := [(4, .long s.1), (6, .long s.2)]) (st' := [.long s.2, .long s.1]) [.lload 4, .lload 6] (by decide +kernel) rfl ?_
    obtain ⟨hz, h⟩ := zck_some h
    refine zV_lrem (by decide +kernel) (of_decide_eq_true hz) ?_
    refine zV_blk (pc' := 34) (lo' := [(6, .long (s.1 - s.1 / s.2 * s.2)), (4, .long s.2), (8, .long (s.1 - s.1 / s.2 * s.2))]) (st' := []) [.lstore 8, .lload 6, .lstore 4, .lload 8, .lstore 6] (by decide +kernel) rfl ?_
    refine zV_goto (tgt := 12) (off := -22) (by decide +kernel) (by decide) ?_
    obtain rfl := Option.some.inj h
    refine zV_pick (lo2 := [(4, .long s.2), (6, .long (s.1 - s.1 / s.2 * s.2))]) [1, 0] rfl ?_
    exact hL12 _ rfl
theorem cmgcd_12L (s0 : State) (D : va_G) (cB cI cJ cD : ClassId) (n : Nat) : ∀ (k : Nat) (s : Int64 × Int64) {hi hm : zHp} {nx : Nat} {Q : Option Value → zHp → zHp → Nat → Prop} {x : Int64} (_ : zloop (mgcd_12 n) k s = some x) (hQ : ∀ r : Int64, x = r → Q (some (.long r)) hi hm nx), zV s0 D (zty cB cI cJ cD) yX12_gcd cX12_gcd 10 (some .long) 1 21 0 0 12 [(4, .long s.1), (6, .long s.2)] [] hi hm nx Q
  | 0, s, _, _, _, _, _, h, _ => by cases h
  | k + 1, s, hi, hm, nx, Q, x, h, hQ => by
    obtain ⟨z, hz, h1, h2⟩ := zloop_succ h
    exact cmgcd_12 s0 D cB cI cJ cD n  s z hz (fun s' hs => cmgcd_12L s0 D cB cI cJ cD n  k s' (h1 s' hs) hQ) (fun r hr => hQ r (h2 _ hr).symm)
def mgcd (n : Nat) (x0 : Int64) (x2 : Int64) : Option (Int64) := (msize x0).bind (fun v1 => (msize x2).bind (fun v2 => (zloop (mgcd_12 n) n (v1, v2))))
theorem oX12_gcd : zO yX12_gcd cX12_gcd 10 (some .long) 2 := ⟨zT_mem 1738 (by decide +kernel) rfl, zT_mem 94 (by decide +kernel) rfl, by decide +kernel, by decide +kernel, by decide +kernel⟩
set_option maxHeartbeats 4000000 in
set_option maxRecDepth 100000 in
theorem cmgcd (s0 : State) (D : va_G) (cB cI cJ cD : ClassId) (n : Nat) (x0 : Int64) (x2 : Int64) (x : Int64) (h : mgcd n x0 x2 = some x) : sC s0 D (zty cB cI cJ cD) yX12_gcd cX12_gcd 10 (some .long) 1 21 [.long x0, .long x2] (.long x) := by
  intro hi hm nx Q hQ0
  have hQ : ∀ r : Int64, x = r → Q (some (.long r)) hi hm nx := fun r hr => by subst hr; exact hQ0
  refine zM_of (by decide +kernel) (Nat.le_of_ble_eq_true rfl) ?_
  unfold mgcd at h
  refine zV_eq (lo2 := [(0, .long x0), (2, .long x2)]) rfl rfl rfl rfl ?_
  refine zV_blk (pc' := 1) (lo' := [(0, .long x0), (2, .long x2)]) (st' := [.long x0]) [.lload_n 0] (by decide +kernel) rfl ?_
  obtain ⟨v1, hv1, h⟩ := zbind h
  refine zV_sC (idx := 32) (rest := []) (cmsize s0 D cB cI cJ cD x0 v1 hv1) oX12_size (zT_mem 1739 (by decide +kernel) rfl) (zT_mem 1740 (by decide +kernel) rfl) rfl rfl (Nat.le_of_ble_eq_true rfl) ⟨by decide, by decide⟩ (by decide +kernel) ?_
  refine zV_eq (st2 := [.long v1]) rfl rfl rfl rfl ?_
  refine zV_blk (pc' := 7) (lo' := [(4, .long v1), (0, .long x0), (2, .long x2)]) (st' := [.long x2]) [.lstore 4, .lload_n 2] (by decide +kernel) rfl ?_
  obtain ⟨v2, hv2, h⟩ := zbind h
  refine zV_sC (idx := 32) (rest := []) (cmsize s0 D cB cI cJ cD x2 v2 hv2) oX12_size (zT_mem 1739 (by decide +kernel) rfl) (zT_mem 1740 (by decide +kernel) rfl) rfl rfl (Nat.le_of_ble_eq_true rfl) ⟨by decide, by decide⟩ (by decide +kernel) ?_
  refine zV_eq (st2 := [.long v2]) rfl rfl rfl rfl ?_
  refine zV_blk (pc' := 12) (lo' := [(6, .long v2), (4, .long v1), (0, .long x0), (2, .long x2)]) (st' := []) [.lstore 6] (by decide +kernel) rfl ?_
  refine zV_pick (lo2 := [(4, .long v1), (6, .long v2)]) [1, 0] rfl ?_
  exact cmgcd_12L s0 D cB cI cJ cD n  n (v1, v2) h hQ

def mpartOf (n : Nat) (x0 : Int64) (x2 : Int64) (x4 : Int32) : Option (Int64) := (misIn (x4 : Int32).toInt64 0 1).bind (fun v1 => (if v1 = true then (mgcd n x0 x2).bind (fun v2 => (if (x4 : Int32) = (0 : Int32) then zck (decide (¬ (v2 : Int64) = 0)) (some (x0 / v2)) else zck (decide (¬ (v2 : Int64) = 0)) (some (x2 / v2)))) else some (-1000000000000000)))
theorem oX12_partOf : zO yX12_partOf cX12_partOf 7 (some .long) 3 := ⟨zT_mem 1735 (by decide +kernel) rfl, zT_mem 94 (by decide +kernel) rfl, by decide +kernel, by decide +kernel, by decide +kernel⟩
set_option maxHeartbeats 4000000 in
set_option maxRecDepth 100000 in
theorem cmpartOf (s0 : State) (D : va_G) (cB cI cJ cD : ClassId) (n : Nat) (x0 : Int64) (x2 : Int64) (x4 : Int32) (x : Int64) (h : mpartOf n x0 x2 x4 = some x) : sC s0 D (zty cB cI cJ cD) yX12_partOf cX12_partOf 7 (some .long) 2 50 [.long x0, .long x2, .int x4] (.long x) := by
  intro hi hm nx Q hQ0
  have hQ : ∀ r : Int64, x = r → Q (some (.long r)) hi hm nx := fun r hr => by subst hr; exact hQ0
  refine zM_of (by decide +kernel) (Nat.le_of_ble_eq_true rfl) ?_
  unfold mpartOf at h
  refine zV_eq (lo2 := [(0, .long x0), (2, .long x2), (4, .int x4)]) rfl rfl rfl rfl ?_
  refine zV_blk (pc' := 5) (lo' := [(0, .long x0), (2, .long x2), (4, .int x4)]) (st' := [.long 1, .long 0, .long (x4 : Int32).toInt64]) [.iload 4, .i2l, .lconst 0, .lconst 1] (by decide +kernel) rfl ?_
  obtain ⟨v1, hv1, h⟩ := zbind h
  refine zV_sC (idx := 36) (rest := []) (cmisIn s0 D cB cI cJ cD (x4 : Int32).toInt64 0 1 v1 hv1) oX12_isIn (zT_mem 1531 (by decide +kernel) rfl) (zT_mem 1532 (by decide +kernel) rfl) rfl rfl (Nat.le_of_ble_eq_true rfl) ⟨by decide, by decide⟩ (by decide +kernel) ?_
  refine zV_eq (st2 := [.int (zb v1)]) rfl rfl rfl rfl ?_
  refine zV_bif_ne (tgt := 15) (off := 7) (by decide +kernel) (by decide) (fun q => ?_) (fun q => ?_)
  · replace h := zif_pos q h
    clear q
    refine zV_blk (pc' := 17) (lo' := [(0, .long x0), (2, .long x2), (4, .int x4)]) (st' := [.long x2, .long x0]) [.lload_n 0, .lload_n 2] (by decide +kernel) rfl ?_
    obtain ⟨v2, hv2, h⟩ := zbind h
    refine zV_sC (idx := 42) (rest := []) (cmgcd s0 D cB cI cJ cD n x0 x2 v2 hv2) oX12_gcd (zT_mem 1736 (by decide +kernel) rfl) (zT_mem 1737 (by decide +kernel) rfl) rfl rfl (Nat.le_of_ble_eq_true rfl) ⟨by decide, by decide⟩ (by decide +kernel) ?_
    refine zV_eq (st2 := [.long v2]) rfl rfl rfl rfl ?_
    refine zV_blk (pc' := 24) (lo' := [(5, .long v2), (0, .long x0), (2, .long x2), (4, .int x4)]) (st' := [.int x4]) [.lstore 5, .iload 4] (by decide +kernel) rfl ?_
    refine zV_if_ne (tgt := 31) (off := 7) (by decide +kernel) (by decide) (fun q => ?_) (fun q => ?_)
    · replace h := zif_neg q h
      clear q
      refine zV_blk (pc' := 34) (lo' := [(5, .long v2), (0, .long x0), (2, .long x2), (4, .int x4)]) (st' := [.long v2, .long x2]) [.lload_n 2, .lload 5] (by decide +kernel) rfl ?_
      obtain ⟨hz, h⟩ := zck_some h
      refine zV_ldiv (by decide +kernel) (of_decide_eq_true hz) ?_
      obtain rfl := Option.some.inj h
      exact zV_lret rfl (by decide +kernel) (hQ _ rfl)
    · replace h := zif_pos q h
      clear q
      refine zV_blk (pc' := 28) (lo' := [(5, .long v2), (0, .long x0), (2, .long x2), (4, .int x4)]) (st' := [.long x0]) [.lload_n 0] (by decide +kernel) rfl ?_
      refine zV_goto (tgt := 32) (off := 4) (by decide +kernel) (by decide) ?_
      refine zV_blk (pc' := 34) (lo' := [(5, .long v2), (0, .long x0), (2, .long x2), (4, .int x4)]) (st' := [.long v2, .long x0]) [.lload 5] (by decide +kernel) rfl ?_
      obtain ⟨hz, h⟩ := zck_some h
      refine zV_ldiv (by decide +kernel) (of_decide_eq_true hz) ?_
      obtain rfl := Option.some.inj h
      exact zV_lret rfl (by decide +kernel) (hQ _ rfl)
  · replace h := zif_neg q h
    clear q
    refine zV_ldc2 (idx := 40) (v := (-1000000000000000)) (zT_mem 1728 (by decide +kernel) rfl) (by decide +kernel) ?_
    obtain rfl := Option.some.inj h
    exact zV_lret rfl (by decide +kernel) (hQ _ rfl)

def mputs_3 (n : Nat) (x1 : Int32) (s : Int32 × (Nat → Int32) × (Nat → Int32)) : Option ((Int32 × (Nat → Int32) × (Nat → Int32)) ⊕ ((Nat → Int32) × (Nat → Int32))) := (if (s.1 : Int32) < (0 : Int32) then some (.inr (s.2.1, s.2.2)) else zck (zin ((s.2.1 2)) 800) (some (.inl ((s.1 + (-8)), (upd s.2.1 2 ((s.2.1 2) + 1)), (upd s.2.2 ((s.2.1 2) : Int32).toNatClampNeg (vp_nar .byte ((x1 >>> (s.1 &&& 31)) : Int32).toInt8.toInt32))))))
set_option maxHeartbeats 4000000 in
set_option maxRecDepth 100000 in
theorem cmputs_3 (s0 : State) (D : va_G) (cB cI cJ cD : ClassId) (am a1 a2 a3 : Nat) (G : Nat → Int64) (w : Nat → Int32) (oc : Nat → Int32) (n : Nat) (x1 : Int32) (s : Int32 × (Nat → Int32) × (Nat → Int32)) (x : (Int32 × (Nat → Int32) × (Nat → Int32)) ⊕ ((Nat → Int32) × (Nat → Int32))) {hi hm : zHp} {nx : Nat} {Q : Option Value → zHp → zHp → Nat → Prop} {hm0 : zHp} (hW : mW cB cI am a1 a2 a3 s.2.1 G s.2.2 w oc hm) (hFr : mFr am a1 a2 a3 hm0 hm) (h : mputs_3 n x1 s = some x) (hL3 : ∀ s : Int32 × (Nat → Int32) × (Nat → Int32), x = (.inl s) → ∀ hm', mW cB cI am a1 a2 a3 s.2.1 G s.2.2 w oc hm' → mFr am a1 a2 a3 hm0 hm' → zV s0 D (zty cB cI cJ cD) yX12_puts cX12_puts 3 none 0 0 0 0 3 [(0, .ref am), (1, .int x1), (2, .int s.1)] [] hi hm' nx Q) (hQ : ∀ r : (Nat → Int32) × (Nat → Int32), x = (.inr r) → ∀ hm', mW cB cI am a1 a2 a3 r.1 G r.2 w oc hm' → mFr am a1 a2 a3 hm0 hm' → Q none hi hm' nx) : zV s0 D (zty cB cI cJ cD) yX12_puts cX12_puts 3 none 0 0 0 0 3 [(0, .ref am), (1, .int x1), (2, .int s.1)] [] hi hm nx Q := by
  unfold mputs_3 at h
  refine zV_blk (pc' := 4) (lo' := [(0, .ref am), (1, .int x1), (2, .int s.1)]) (st' := [.int s.1]) [.iload_n 2] (by decide +kernel) rfl ?_
  refine zV_if_lt (tgt := 36) (off := 32) (by decide +kernel) (by decide) (fun q => ?_) (fun q => ?_)
  · replace h := zif_pos q h
    clear q
    obtain rfl := Option.some.inj h
    exact zV_vret rfl (by decide +kernel) (hQ _ rfl hm hW hFr)
  · replace h := zif_neg q h
    clear q
    refine zV_blk (pc' := 8) (lo' := [(0, .ref am), (1, .int x1), (2, .int s.1)]) (st' := [.ref am]) [.aload_n 0] (by decide +kernel) rfl ?_
    refine m_get (idx := 7) (k := 1) (v := .ref a1) hW m_in12 (by decide) (zT_mem 1441 (by decide +kernel) rfl) rfl (by decide +kernel) ?_
    refine zV_blk (pc' := 12) (lo' := [(0, .ref am), (1, .int x1), (2, .int s.1)]) (st' := [.ref am, .ref a1]) [.aload_n 0] (by decide +kernel) rfl ?_
    refine m_get (idx := 45) (k := 2) (v := .int (s.2.1 2)) hW m_in12 (by decide) (zT_mem 1442 (by decide +kernel) rfl) rfl (by decide +kernel) ?_
    refine zV_blk (pc' := 19) (lo' := [(0, .ref am), (1, .int x1), (2, .int s.1)]) (st' := [.int ((x1 >>> (s.1 &&& 31)) : Int32).toInt8.toInt32, .int (s.2.1 2), .ref a1]) [.iload_n 1, .iload_n 2, .ishr, .i2b] (by decide +kernel) rfl ?_
    obtain ⟨hz, h⟩ := zck_some h
    refine m_tst hW hz (by decide +kernel) (fun hm hW hFr2 => ?_)
    replace hFr := hFr.tr hFr2; clear hFr2
    refine zV_blk (pc' := 22) (lo' := [(0, .ref am), (1, .int x1), (2, .int s.1)]) (st' := [.ref am, .ref am]) [.aload_n 0, .dup] (by decide +kernel) rfl ?_
    refine m_get (idx := 45) (k := 2) (v := .int (s.2.1 2)) hW m_in12 (by decide) (zT_mem 1442 (by decide +kernel) rfl) rfl (by decide +kernel) ?_
    refine zV_blk (pc' := 27) (lo' := [(0, .ref am), (1, .int x1), (2, .int s.1)]) (st' := [.int ((s.2.1 2) + 1), .ref am]) [.iconst 1, .iadd] (by decide +kernel) rfl ?_
    refine m_put (idx := 45) (k := 2) (v := .int ((s.2.1 2) + 1)) (F' := (upd s.2.1 2 ((s.2.1 2) + 1))) (G' := G) hW m_in12 (by decide) (zT_mem 1442 (by decide +kernel) rfl) rfl rfl rfl rfl (by decide +kernel) (fun hm hW hFr2 => ?_)
    replace hFr := hFr.tr hFr2; clear hFr2
    refine zV_blk (pc' := 33) (lo' := [(2, .int (s.1 + (-8))), (0, .ref am), (1, .int x1)]) (st' := []) [.iinc 2 (-8)] (by decide +kernel) rfl ?_
    refine zV_goto (tgt := 3) (off := -30) (by decide +kernel) (by decide) ?_
    obtain rfl := Option.some.inj h
    refine zV_pick (lo2 := [(0, .ref am), (1, .int x1), (2, .int (s.1 + (-8)))]) [1, 2, 0] rfl ?_
    exact hL3 _ rfl hm hW hFr
theorem cmputs_3L (s0 : State) (D : va_G) (cB cI cJ cD : ClassId) (am a1 a2 a3 : Nat) (G : Nat → Int64) (w : Nat → Int32) (oc : Nat → Int32) (n : Nat) (x1 : Int32) : ∀ (k : Nat) (s : Int32 × (Nat → Int32) × (Nat → Int32)) {hi hm : zHp} {nx : Nat} {Q : Option Value → zHp → zHp → Nat → Prop} {hm0 : zHp} (_ : mW cB cI am a1 a2 a3 s.2.1 G s.2.2 w oc hm) (_ : mFr am a1 a2 a3 hm0 hm) {x : (Nat → Int32) × (Nat → Int32)} (_ : zloop (mputs_3 n x1) k s = some x) (hQ : ∀ r : (Nat → Int32) × (Nat → Int32), x = r → ∀ hm', mW cB cI am a1 a2 a3 r.1 G r.2 w oc hm' → mFr am a1 a2 a3 hm0 hm' → Q none hi hm' nx), zV s0 D (zty cB cI cJ cD) yX12_puts cX12_puts 3 none 0 0 0 0 3 [(0, .ref am), (1, .int x1), (2, .int s.1)] [] hi hm nx Q
  | 0, s, _, _, _, _, _, hW, hFr, _, h, _ => by cases h
  | k + 1, s, hi, hm, nx, Q, hm0, hW, hFr, x, h, hQ => by
    obtain ⟨z, hz, h1, h2⟩ := zloop_succ h
    exact cmputs_3 s0 D cB cI cJ cD am a1 a2 a3 G w oc n x1 s z hW hFr hz (fun s' hs hm' hW' hFr' => cmputs_3L s0 D cB cI cJ cD am a1 a2 a3 G w oc n x1 k s' hW' hFr' (h1 s' hs) hQ) (fun r hr hm' hW' hFr' => hQ r (h2 _ hr).symm hm' hW' hFr')
def mputs (n : Nat) (F : Nat → Int32) (tp : Nat → Int32) (x1 : Int32) : Option ((Nat → Int32) × (Nat → Int32)) := (zloop (mputs_3 n x1) n (24, F, tp))
theorem oX12_puts : zO yX12_puts cX12_puts 3 none 1 := ⟨zT_mem 1526 (by decide +kernel) rfl, zT_mem 94 (by decide +kernel) rfl, by decide +kernel, by decide +kernel, by decide +kernel⟩
set_option maxHeartbeats 4000000 in
set_option maxRecDepth 100000 in
theorem cmputs (s0 : State) (D : va_G) (cB cI cJ cD : ClassId) (am a1 a2 a3 : Nat) (F : Nat → Int32) (G : Nat → Int64) (tp w oc : Nat → Int32) (n : Nat) (x1 : Int32) (x : (Nat → Int32) × (Nat → Int32)) (h : mputs n F tp x1 = some x) : mC s0 D cB cI cJ cD am a1 a2 a3 yX12_puts cX12_puts 3 none 0 0 [.int x1] F G tp w oc none x.1 G x.2 w oc := by
  intro hi hm nx Q hW hQ0
  have hQ : ∀ r : (Nat → Int32) × (Nat → Int32), x = r → ∀ hm', mW cB cI am a1 a2 a3 r.1 G r.2 w oc hm' → mFr am a1 a2 a3 hm hm' → Q none hi hm' nx := fun r hr => by subst hr; exact hQ0
  have hFr : mFr am a1 a2 a3 hm hm := mFr.rf
  clear hQ0
  refine zM_of (by decide +kernel) (Nat.le_of_ble_eq_true rfl) ?_
  unfold mputs at h
  refine zV_eq (lo2 := [(0, .ref am), (1, .int x1)]) rfl rfl rfl rfl ?_
  refine zV_blk (pc' := 3) (lo' := [(2, .int 24), (0, .ref am), (1, .int x1)]) (st' := []) [.bipush 24, .istore_n 2] (by decide +kernel) rfl ?_
  refine zV_pick (lo2 := [(0, .ref am), (1, .int x1), (2, .int 24)]) [1, 2, 0] rfl ?_
  exact cmputs_3L s0 D cB cI cJ cD am a1 a2 a3 G w oc n x1 n (24, F, tp) hW hFr h hQ

def mfeed (n : Nat) (F : Nat → Int32) (tp : Nat → Int32) (x1 : Int32) (x2 : Int32) (x3 : Int32) (x4 : Int32) (x5 : Int32) : Option (Int32 × (Nat → Int32) × (Nat → Int32)) := (if ((((upd F 0 0) 2) + 20) : Int32) ≤ (800 : Int32) then (mputs n (upd F 0 0) tp x1).bind (fun v1 => (mputs n v1.1 v1.2 x2).bind (fun v2 => (mputs n v2.1 v2.2 x3).bind (fun v3 => (mputs n v3.1 v3.2 x4).bind (fun v4 => (mputs n v4.1 v4.2 x5).bind (fun v5 => some ((v5.1 2), v5.1, v5.2)))))) else some ((-1), (upd F 0 0), tp))
theorem oX12_feed : zO yX12_feed cX12_feed 6 (some .int) 5 := ⟨zT_mem 1522 (by decide +kernel) rfl, zT_mem 94 (by decide +kernel) rfl, by decide +kernel, by decide +kernel, by decide +kernel⟩
set_option maxHeartbeats 4000000 in
set_option maxRecDepth 100000 in
theorem cmfeed (s0 : State) (D : va_G) (cB cI cJ cD : ClassId) (am a1 a2 a3 : Nat) (F : Nat → Int32) (G : Nat → Int64) (tp w oc : Nat → Int32) (n : Nat) (x1 : Int32) (x2 : Int32) (x3 : Int32) (x4 : Int32) (x5 : Int32) (x : Int32 × (Nat → Int32) × (Nat → Int32)) (h : mfeed n F tp x1 x2 x3 x4 x5 = some x) : mC s0 D cB cI cJ cD am a1 a2 a3 yX12_feed cX12_feed 6 (some .int) 1 22 [.int x1, .int x2, .int x3, .int x4, .int x5] F G tp w oc (some (.int x.1)) x.2.1 G x.2.2 w oc := by
  intro hi hm nx Q hW hQ0
  have hQ : ∀ r : Int32 × (Nat → Int32) × (Nat → Int32), x = r → ∀ hm', mW cB cI am a1 a2 a3 r.2.1 G r.2.2 w oc hm' → mFr am a1 a2 a3 hm hm' → Q (some (.int r.1)) hi hm' nx := fun r hr => by subst hr; exact hQ0
  have hFr : mFr am a1 a2 a3 hm hm := mFr.rf
  clear hQ0
  refine zM_of (by decide +kernel) (Nat.le_of_ble_eq_true rfl) ?_
  unfold mfeed at h
  refine zV_eq (lo2 := [(0, .ref am), (1, .int x1), (2, .int x2), (3, .int x3), (4, .int x4), (5, .int x5)]) rfl rfl rfl rfl ?_
  refine zV_blk (pc' := 2) (lo' := [(0, .ref am), (1, .int x1), (2, .int x2), (3, .int x3), (4, .int x4), (5, .int x5)]) (st' := [.int 0, .ref am]) [.aload_n 0, .iconst 0] (by decide +kernel) rfl ?_
  refine m_put (idx := 25) (k := 0) (v := .int 0) (F' := (upd F 0 0)) (G' := G) hW m_in12 (by decide) (zT_mem 1440 (by decide +kernel) rfl) rfl rfl rfl rfl (by decide +kernel) (fun hm hW hFr2 => ?_)
  replace hFr := hFr.tr hFr2; clear hFr2
  refine zV_blk (pc' := 6) (lo' := [(0, .ref am), (1, .int x1), (2, .int x2), (3, .int x3), (4, .int x4), (5, .int x5)]) (st' := [.ref am]) [.aload_n 0] (by decide +kernel) rfl ?_
  refine m_get (idx := 45) (k := 2) (v := .int ((upd F 0 0) 2)) hW m_in12 (by decide) (zT_mem 1442 (by decide +kernel) rfl) rfl (by decide +kernel) ?_
  refine zV_blk (pc' := 15) (lo' := [(0, .ref am), (1, .int x1), (2, .int x2), (3, .int x3), (4, .int x4), (5, .int x5)]) (st' := [.int 800, .int (((upd F 0 0) 2) + 20)]) [.bipush 20, .iadd, .sipush 800] (by decide +kernel) rfl ?_
  refine zV_icmp_le (tgt := 20) (off := 5) (by decide +kernel) (by decide) (fun q => ?_) (fun q => ?_)
  · replace h := zif_pos q h
    clear q
    refine zV_blk (pc' := 22) (lo' := [(0, .ref am), (1, .int x1), (2, .int x2), (3, .int x3), (4, .int x4), (5, .int x5)]) (st' := [.int x1, .ref am]) [.aload_n 0, .iload_n 1] (by decide +kernel) rfl ?_
    obtain ⟨v1, hv1, h⟩ := zbind h
    refine m_cC (idx := 48) (rest := []) hW (cmputs s0 D cB cI cJ cD am a1 a2 a3 (upd F 0 0) G tp w oc n x1 v1 hv1) oX12_puts rfl (zT_mem 1523 (by decide +kernel) rfl) (zT_mem 1525 (by decide +kernel) rfl) (zT_mem 20 (by decide +kernel) rfl) rfl rfl (Nat.le_of_ble_eq_true rfl) ⟨by decide, by decide⟩ (by decide +kernel) (fun hm hW hFr2 => ?_)
    replace hFr := hFr.tr hFr2; clear hFr2
    refine zV_eq (st2 := []) rfl rfl rfl rfl ?_
    refine zV_blk (pc' := 27) (lo' := [(0, .ref am), (1, .int x1), (2, .int x2), (3, .int x3), (4, .int x4), (5, .int x5)]) (st' := [.int x2, .ref am]) [.aload_n 0, .iload_n 2] (by decide +kernel) rfl ?_
    obtain ⟨v2, hv2, h⟩ := zbind h
    refine m_cC (idx := 48) (rest := []) hW (cmputs s0 D cB cI cJ cD am a1 a2 a3 v1.1 G v1.2 w oc n x2 v2 hv2) oX12_puts rfl (zT_mem 1523 (by decide +kernel) rfl) (zT_mem 1525 (by decide +kernel) rfl) (zT_mem 20 (by decide +kernel) rfl) rfl rfl (Nat.le_of_ble_eq_true rfl) ⟨by decide, by decide⟩ (by decide +kernel) (fun hm hW hFr2 => ?_)
    replace hFr := hFr.tr hFr2; clear hFr2
    refine zV_eq (st2 := []) rfl rfl rfl rfl ?_
    refine zV_blk (pc' := 32) (lo' := [(0, .ref am), (1, .int x1), (2, .int x2), (3, .int x3), (4, .int x4), (5, .int x5)]) (st' := [.int x3, .ref am]) [.aload_n 0, .iload_n 3] (by decide +kernel) rfl ?_
    obtain ⟨v3, hv3, h⟩ := zbind h
    refine m_cC (idx := 48) (rest := []) hW (cmputs s0 D cB cI cJ cD am a1 a2 a3 v2.1 G v2.2 w oc n x3 v3 hv3) oX12_puts rfl (zT_mem 1523 (by decide +kernel) rfl) (zT_mem 1525 (by decide +kernel) rfl) (zT_mem 20 (by decide +kernel) rfl) rfl rfl (Nat.le_of_ble_eq_true rfl) ⟨by decide, by decide⟩ (by decide +kernel) (fun hm hW hFr2 => ?_)
    replace hFr := hFr.tr hFr2; clear hFr2
    refine zV_eq (st2 := []) rfl rfl rfl rfl ?_
    refine zV_blk (pc' := 38) (lo' := [(0, .ref am), (1, .int x1), (2, .int x2), (3, .int x3), (4, .int x4), (5, .int x5)]) (st' := [.int x4, .ref am]) [.aload_n 0, .iload 4] (by decide +kernel) rfl ?_
    obtain ⟨v4, hv4, h⟩ := zbind h
    refine m_cC (idx := 48) (rest := []) hW (cmputs s0 D cB cI cJ cD am a1 a2 a3 v3.1 G v3.2 w oc n x4 v4 hv4) oX12_puts rfl (zT_mem 1523 (by decide +kernel) rfl) (zT_mem 1525 (by decide +kernel) rfl) (zT_mem 20 (by decide +kernel) rfl) rfl rfl (Nat.le_of_ble_eq_true rfl) ⟨by decide, by decide⟩ (by decide +kernel) (fun hm hW hFr2 => ?_)
    replace hFr := hFr.tr hFr2; clear hFr2
    refine zV_eq (st2 := []) rfl rfl rfl rfl ?_
    refine zV_blk (pc' := 44) (lo' := [(0, .ref am), (1, .int x1), (2, .int x2), (3, .int x3), (4, .int x4), (5, .int x5)]) (st' := [.int x5, .ref am]) [.aload_n 0, .iload 5] (by decide +kernel) rfl ?_
    obtain ⟨v5, hv5, h⟩ := zbind h
    refine m_cC (idx := 48) (rest := []) hW (cmputs s0 D cB cI cJ cD am a1 a2 a3 v4.1 G v4.2 w oc n x5 v5 hv5) oX12_puts rfl (zT_mem 1523 (by decide +kernel) rfl) (zT_mem 1525 (by decide +kernel) rfl) (zT_mem 20 (by decide +kernel) rfl) rfl rfl (Nat.le_of_ble_eq_true rfl) ⟨by decide, by decide⟩ (by decide +kernel) (fun hm hW hFr2 => ?_)
    replace hFr := hFr.tr hFr2; clear hFr2
    refine zV_eq (st2 := []) rfl rfl rfl rfl ?_
    refine zV_blk (pc' := 48) (lo' := [(0, .ref am), (1, .int x1), (2, .int x2), (3, .int x3), (4, .int x4), (5, .int x5)]) (st' := [.ref am]) [.aload_n 0] (by decide +kernel) rfl ?_
    refine m_get (idx := 45) (k := 2) (v := .int (v5.1 2)) hW m_in12 (by decide) (zT_mem 1442 (by decide +kernel) rfl) rfl (by decide +kernel) ?_
    obtain rfl := Option.some.inj h
    exact zV_iret rfl (by decide +kernel) (hQ _ rfl hm hW hFr)
  · replace h := zif_neg q h
    clear q
    refine zV_blk (pc' := 19) (lo' := [(0, .ref am), (1, .int x1), (2, .int x2), (3, .int x3), (4, .int x4), (5, .int x5)]) (st' := [.int (-1)]) [.iconst (-1)] (by decide +kernel) rfl ?_
    obtain rfl := Option.some.inj h
    exact zV_iret rfl (by decide +kernel) (hQ _ rfl hm hW hFr)

def mend (F : Nat → Int32) (x1 : Int32) : Option (Bool × (Nat → Int32)) := (misIn (x1 : Int32).toInt64 0 (((upd F 0 0) 2) : Int32).toInt64).bind (fun v1 => (if v1 = true then some (true, (upd (upd F 0 0) 2 x1)) else some (false, (upd F 0 0))))
theorem oX12_end : zO yX12_end cX12_end 2 (some .boolean) 1 := ⟨zT_mem 1530 (by decide +kernel) rfl, zT_mem 94 (by decide +kernel) rfl, by decide +kernel, by decide +kernel, by decide +kernel⟩
set_option maxHeartbeats 4000000 in
set_option maxRecDepth 100000 in
theorem cmend (s0 : State) (D : va_G) (cB cI cJ cD : ClassId) (am a1 a2 a3 : Nat) (F : Nat → Int32) (G : Nat → Int64) (tp w oc : Nat → Int32) (x1 : Int32) (x : Bool × (Nat → Int32)) (h : mend F x1 = some x) : mC s0 D cB cI cJ cD am a1 a2 a3 yX12_end cX12_end 2 (some .boolean) 1 25 [.int x1] F G tp w oc (some (.int (zb x.1))) x.2 G tp w oc := by
  intro hi hm nx Q hW hQ0
  have hQ : ∀ r : Bool × (Nat → Int32), x = r → ∀ hm', mW cB cI am a1 a2 a3 r.2 G tp w oc hm' → mFr am a1 a2 a3 hm hm' → Q (some (.int (zb r.1))) hi hm' nx := fun r hr => by subst hr; exact hQ0
  have hFr : mFr am a1 a2 a3 hm hm := mFr.rf
  clear hQ0
  refine zM_of (by decide +kernel) (Nat.le_of_ble_eq_true rfl) ?_
  unfold mend at h
  refine zV_eq (lo2 := [(0, .ref am), (1, .int x1)]) rfl rfl rfl rfl ?_
  refine zV_blk (pc' := 2) (lo' := [(0, .ref am), (1, .int x1)]) (st' := [.int 0, .ref am]) [.aload_n 0, .iconst 0] (by decide +kernel) rfl ?_
  refine m_put (idx := 25) (k := 0) (v := .int 0) (F' := (upd F 0 0)) (G' := G) hW m_in12 (by decide) (zT_mem 1440 (by decide +kernel) rfl) rfl rfl rfl rfl (by decide +kernel) (fun hm hW hFr2 => ?_)
  replace hFr := hFr.tr hFr2; clear hFr2
  refine zV_blk (pc' := 9) (lo' := [(0, .ref am), (1, .int x1)]) (st' := [.ref am, .long 0, .long (x1 : Int32).toInt64]) [.iload_n 1, .i2l, .lconst 0, .aload_n 0] (by decide +kernel) rfl ?_
  refine m_get (idx := 45) (k := 2) (v := .int ((upd F 0 0) 2)) hW m_in12 (by decide) (zT_mem 1442 (by decide +kernel) rfl) rfl (by decide +kernel) ?_
  refine zV_blk (pc' := 13) (lo' := [(0, .ref am), (1, .int x1)]) (st' := [.long (((upd F 0 0) 2) : Int32).toInt64, .long 0, .long (x1 : Int32).toInt64]) [.i2l] (by decide +kernel) rfl ?_
  obtain ⟨v1, hv1, h⟩ := zbind h
  refine zV_sC (idx := 36) (rest := []) (cmisIn s0 D cB cI cJ cD (x1 : Int32).toInt64 0 (((upd F 0 0) 2) : Int32).toInt64 v1 hv1) oX12_isIn (zT_mem 1531 (by decide +kernel) rfl) (zT_mem 1532 (by decide +kernel) rfl) rfl rfl (Nat.le_of_ble_eq_true rfl) ⟨by decide, by decide⟩ (by decide +kernel) ?_
  refine zV_eq (st2 := [.int (zb v1)]) rfl rfl rfl rfl ?_
  refine zV_bif_ne (tgt := 21) (off := 5) (by decide +kernel) (by decide) (fun q => ?_) (fun q => ?_)
  · replace h := zif_pos q h
    clear q
    refine zV_blk (pc' := 23) (lo' := [(0, .ref am), (1, .int x1)]) (st' := [.int x1, .ref am]) [.aload_n 0, .iload_n 1] (by decide +kernel) rfl ?_
    refine m_put (idx := 45) (k := 2) (v := .int x1) (F' := (upd (upd F 0 0) 2 x1)) (G' := G) hW m_in12 (by decide) (zT_mem 1442 (by decide +kernel) rfl) rfl rfl rfl rfl (by decide +kernel) (fun hm hW hFr2 => ?_)
    replace hFr := hFr.tr hFr2; clear hFr2
    refine zV_blk (pc' := 27) (lo' := [(0, .ref am), (1, .int x1)]) (st' := [.int 1]) [.iconst 1] (by decide +kernel) rfl ?_
    obtain rfl := Option.some.inj h
    refine zV_eq (st2 := [.int (zb true)]) rfl rfl rfl rfl ?_
    exact zV_bret rfl (by decide +kernel) (hQ _ rfl hm hW hFr)
  · replace h := zif_neg q h
    clear q
    refine zV_blk (pc' := 20) (lo' := [(0, .ref am), (1, .int x1)]) (st' := [.int 0]) [.iconst 0] (by decide +kernel) rfl ?_
    obtain rfl := Option.some.inj h
    refine zV_eq (st2 := [.int (zb false)]) rfl rfl rfl rfl ?_
    exact zV_bret rfl (by decide +kernel) (hQ _ rfl hm hW hFr)

def mbeginsText (F : Nat → Int32) : Option ((Nat → Int32)) := some (upd (upd (upd (upd (upd (upd F 3 (F 2)) 2 0) 4 0) 5 (-1)) 6 0) 7 (-1))
theorem oX12_beginsText : zO yX12_beginsText cX12_beginsText 1 none 0 := ⟨zT_mem 1542 (by decide +kernel) rfl, zT_mem 94 (by decide +kernel) rfl, by decide +kernel, by decide +kernel, by decide +kernel⟩
set_option maxHeartbeats 4000000 in
set_option maxRecDepth 100000 in
theorem cmbeginsText (s0 : State) (D : va_G) (cB cI cJ cD : ClassId) (am a1 a2 a3 : Nat) (F : Nat → Int32) (G : Nat → Int64) (tp w oc : Nat → Int32) (x : (Nat → Int32)) (h : mbeginsText F = some x) : mC s0 D cB cI cJ cD am a1 a2 a3 yX12_beginsText cX12_beginsText 1 none 0 0 [] F G tp w oc none x G tp w oc := by
  intro hi hm nx Q hW hQ0
  have hQ : ∀ r : (Nat → Int32), x = r → ∀ hm', mW cB cI am a1 a2 a3 r G tp w oc hm' → mFr am a1 a2 a3 hm hm' → Q none hi hm' nx := fun r hr => by subst hr; exact hQ0
  have hFr : mFr am a1 a2 a3 hm hm := mFr.rf
  clear hQ0
  refine zM_of (by decide +kernel) (Nat.le_of_ble_eq_true rfl) ?_
  unfold mbeginsText at h
  refine zV_eq (lo2 := [(0, .ref am)]) rfl rfl rfl rfl ?_
  refine zV_blk (pc' := 2) (lo' := [(0, .ref am)]) (st' := [.ref am, .ref am]) [.aload_n 0, .aload_n 0] (by decide +kernel) rfl ?_
  refine m_get (idx := 45) (k := 2) (v := .int (F 2)) hW m_in12 (by decide) (zT_mem 1442 (by decide +kernel) rfl) rfl (by decide +kernel) ?_
  refine m_put (idx := 52) (k := 3) (v := .int (F 2)) (F' := (upd F 3 (F 2))) (G' := G) hW m_in12 (by decide) (zT_mem 1443 (by decide +kernel) rfl) rfl rfl rfl rfl (by decide +kernel) (fun hm hW hFr2 => ?_)
  replace hFr := hFr.tr hFr2; clear hFr2
  refine zV_blk (pc' := 10) (lo' := [(0, .ref am)]) (st' := [.int 0, .ref am]) [.aload_n 0, .iconst 0] (by decide +kernel) rfl ?_
  refine m_put (idx := 45) (k := 2) (v := .int 0) (F' := (upd (upd F 3 (F 2)) 2 0)) (G' := G) hW m_in12 (by decide) (zT_mem 1442 (by decide +kernel) rfl) rfl rfl rfl rfl (by decide +kernel) (fun hm hW hFr2 => ?_)
  replace hFr := hFr.tr hFr2; clear hFr2
  refine zV_blk (pc' := 15) (lo' := [(0, .ref am)]) (st' := [.int 0, .ref am]) [.aload_n 0, .iconst 0] (by decide +kernel) rfl ?_
  refine m_put (idx := 55) (k := 4) (v := .int 0) (F' := (upd (upd (upd F 3 (F 2)) 2 0) 4 0)) (G' := G) hW m_in12 (by decide) (zT_mem 1444 (by decide +kernel) rfl) rfl rfl rfl rfl (by decide +kernel) (fun hm hW hFr2 => ?_)
  replace hFr := hFr.tr hFr2; clear hFr2
  refine zV_blk (pc' := 20) (lo' := [(0, .ref am)]) (st' := [.int (-1), .ref am]) [.aload_n 0, .iconst (-1)] (by decide +kernel) rfl ?_
  refine m_put (idx := 58) (k := 5) (v := .int (-1)) (F' := (upd (upd (upd (upd F 3 (F 2)) 2 0) 4 0) 5 (-1))) (G' := G) hW m_in12 (by decide) (zT_mem 1445 (by decide +kernel) rfl) rfl rfl rfl rfl (by decide +kernel) (fun hm hW hFr2 => ?_)
  replace hFr := hFr.tr hFr2; clear hFr2
  refine zV_blk (pc' := 25) (lo' := [(0, .ref am)]) (st' := [.int 0, .ref am]) [.aload_n 0, .iconst 0] (by decide +kernel) rfl ?_
  refine m_put (idx := 61) (k := 6) (v := .int 0) (F' := (upd (upd (upd (upd (upd F 3 (F 2)) 2 0) 4 0) 5 (-1)) 6 0)) (G' := G) hW m_in12 (by decide) (zT_mem 1446 (by decide +kernel) rfl) rfl rfl rfl rfl (by decide +kernel) (fun hm hW hFr2 => ?_)
  replace hFr := hFr.tr hFr2; clear hFr2
  refine zV_blk (pc' := 30) (lo' := [(0, .ref am)]) (st' := [.int (-1), .ref am]) [.aload_n 0, .iconst (-1)] (by decide +kernel) rfl ?_
  refine m_put (idx := 64) (k := 7) (v := .int (-1)) (F' := (upd (upd (upd (upd (upd (upd F 3 (F 2)) 2 0) 4 0) 5 (-1)) 6 0) 7 (-1))) (G' := G) hW m_in12 (by decide) (zT_mem 1447 (by decide +kernel) rfl) rfl rfl rfl rfl (by decide +kernel) (fun hm hW hFr2 => ?_)
  replace hFr := hFr.tr hFr2; clear hFr2
  obtain rfl := Option.some.inj h
  exact zV_vret rfl (by decide +kernel) (hQ _ rfl hm hW hFr)

def misFine (F : Nat → Int32) : Option (Bool) := (if ((F 6) : Int32) = (0 : Int32) then some true else some false)
theorem oX12_isFine : zO yX12_isFine cX12_isFine 1 (some .boolean) 0 := ⟨zT_mem 1550 (by decide +kernel) rfl, zT_mem 94 (by decide +kernel) rfl, by decide +kernel, by decide +kernel, by decide +kernel⟩
set_option maxHeartbeats 4000000 in
set_option maxRecDepth 100000 in
theorem cmisFine (s0 : State) (D : va_G) (cB cI cJ cD : ClassId) (am a1 a2 a3 : Nat) (F : Nat → Int32) (G : Nat → Int64) (tp w oc : Nat → Int32) (x : Bool) (h : misFine F = some x) : mR s0 D cB cI cJ cD am a1 a2 a3 yX12_isFine cX12_isFine 1 (some .boolean) 0 0 [] F G tp w oc (some (.int (zb x))) := by
  intro hi hm nx Q hW hQ0
  have hQ : ∀ r : Bool, x = r → Q (some (.int (zb r))) hi hm nx := fun r hr => by subst hr; exact hQ0
  refine zM_of (by decide +kernel) (Nat.le_of_ble_eq_true rfl) ?_
  unfold misFine at h
  refine zV_eq (lo2 := [(0, .ref am)]) rfl rfl rfl rfl ?_
  refine zV_blk (pc' := 1) (lo' := [(0, .ref am)]) (st' := [.ref am]) [.aload_n 0] (by decide +kernel) rfl ?_
  refine m_get (idx := 61) (k := 6) (v := .int (F 6)) hW m_in12 (by decide) (zT_mem 1446 (by decide +kernel) rfl) rfl (by decide +kernel) ?_
  refine zV_if_ne (tgt := 11) (off := 7) (by decide +kernel) (by decide) (fun q => ?_) (fun q => ?_)
  · replace h := zif_neg q h
    clear q
    refine zV_blk (pc' := 12) (lo' := [(0, .ref am)]) (st' := [.int 0]) [.iconst 0] (by decide +kernel) rfl ?_
    obtain rfl := Option.some.inj h
    refine zV_eq (st2 := [.int (zb false)]) rfl rfl rfl rfl ?_
    exact zV_bret rfl (by decide +kernel) (hQ _ rfl)
  · replace h := zif_pos q h
    clear q
    refine zV_blk (pc' := 8) (lo' := [(0, .ref am)]) (st' := [.int 1]) [.iconst 1] (by decide +kernel) rfl ?_
    refine zV_goto (tgt := 12) (off := 4) (by decide +kernel) (by decide) ?_
    obtain rfl := Option.some.inj h
    refine zV_eq (st2 := [.int (zb true)]) rfl rfl rfl rfl ?_
    exact zV_bret rfl (by decide +kernel) (hQ _ rfl)

def mfail (F : Nat → Int32) (x1 : Int32) (x2 : Int32) : Option ((Nat → Int32)) := (if ((F 6) : Int32) = (0 : Int32) then some (upd (upd F 6 x1) 7 x2) else some F)
theorem oX12_fail : zO yX12_fail cX12_fail 3 none 2 := ⟨zT_mem 1584 (by decide +kernel) rfl, zT_mem 94 (by decide +kernel) rfl, by decide +kernel, by decide +kernel, by decide +kernel⟩
set_option maxHeartbeats 4000000 in
set_option maxRecDepth 100000 in
theorem cmfail (s0 : State) (D : va_G) (cB cI cJ cD : ClassId) (am a1 a2 a3 : Nat) (F : Nat → Int32) (G : Nat → Int64) (tp w oc : Nat → Int32) (x1 : Int32) (x2 : Int32) (x : (Nat → Int32)) (h : mfail F x1 x2 = some x) : mC s0 D cB cI cJ cD am a1 a2 a3 yX12_fail cX12_fail 3 none 0 0 [.int x1, .int x2] F G tp w oc none x G tp w oc := by
  intro hi hm nx Q hW hQ0
  have hQ : ∀ r : (Nat → Int32), x = r → ∀ hm', mW cB cI am a1 a2 a3 r G tp w oc hm' → mFr am a1 a2 a3 hm hm' → Q none hi hm' nx := fun r hr => by subst hr; exact hQ0
  have hFr : mFr am a1 a2 a3 hm hm := mFr.rf
  clear hQ0
  refine zM_of (by decide +kernel) (Nat.le_of_ble_eq_true rfl) ?_
  unfold mfail at h
  refine zV_eq (lo2 := [(0, .ref am), (1, .int x1), (2, .int x2)]) rfl rfl rfl rfl ?_
  refine zV_blk (pc' := 1) (lo' := [(0, .ref am), (1, .int x1), (2, .int x2)]) (st' := [.ref am]) [.aload_n 0] (by decide +kernel) rfl ?_
  refine m_get (idx := 61) (k := 6) (v := .int (F 6)) hW m_in12 (by decide) (zT_mem 1446 (by decide +kernel) rfl) rfl (by decide +kernel) ?_
  refine zV_if_eq (tgt := 8) (off := 4) (by decide +kernel) (by decide) (fun q => ?_) (fun q => ?_)
  · replace h := zif_pos q h
    clear q
    refine zV_blk (pc' := 10) (lo' := [(0, .ref am), (1, .int x1), (2, .int x2)]) (st' := [.int x1, .ref am]) [.aload_n 0, .iload_n 1] (by decide +kernel) rfl ?_
    refine m_put (idx := 61) (k := 6) (v := .int x1) (F' := (upd F 6 x1)) (G' := G) hW m_in12 (by decide) (zT_mem 1446 (by decide +kernel) rfl) rfl rfl rfl rfl (by decide +kernel) (fun hm hW hFr2 => ?_)
    replace hFr := hFr.tr hFr2; clear hFr2
    refine zV_blk (pc' := 15) (lo' := [(0, .ref am), (1, .int x1), (2, .int x2)]) (st' := [.int x2, .ref am]) [.aload_n 0, .iload_n 2] (by decide +kernel) rfl ?_
    refine m_put (idx := 64) (k := 7) (v := .int x2) (F' := (upd (upd F 6 x1) 7 x2)) (G' := G) hW m_in12 (by decide) (zT_mem 1447 (by decide +kernel) rfl) rfl rfl rfl rfl (by decide +kernel) (fun hm hW hFr2 => ?_)
    replace hFr := hFr.tr hFr2; clear hFr2
    obtain rfl := Option.some.inj h
    exact zV_vret rfl (by decide +kernel) (hQ _ rfl hm hW hFr)
  · replace h := zif_neg q h
    clear q
    obtain rfl := Option.some.inj h
    exact zV_vret rfl (by decide +kernel) (hQ _ rfl hm hW hFr)

def misLetter (F : Nat → Int32) (tp : Nat → Int32) (x1 : Int32) : Option (Bool) := (if ((F 3) : Int32) ≤ (x1 : Int32) then some false else zck (zin (x1) 800) ((misIn ((tp (x1 : Int32).toNatClampNeg) : Int32).toInt64 97 122).bind (fun v1 => (if v1 = true then some true else some false))))
theorem oX12_isLetter : zO yX12_isLetter cX12_isLetter 2 (some .boolean) 1 := ⟨zT_mem 1567 (by decide +kernel) rfl, zT_mem 94 (by decide +kernel) rfl, by decide +kernel, by decide +kernel, by decide +kernel⟩
set_option maxHeartbeats 4000000 in
set_option maxRecDepth 100000 in
theorem cmisLetter (s0 : State) (D : va_G) (cB cI cJ cD : ClassId) (am a1 a2 a3 : Nat) (F : Nat → Int32) (G : Nat → Int64) (tp w oc : Nat → Int32) (x1 : Int32) (x : Bool) (h : misLetter F tp x1 = some x) : mR s0 D cB cI cJ cD am a1 a2 a3 yX12_isLetter cX12_isLetter 2 (some .boolean) 1 25 [.int x1] F G tp w oc (some (.int (zb x))) := by
  intro hi hm nx Q hW hQ0
  have hQ : ∀ r : Bool, x = r → Q (some (.int (zb r))) hi hm nx := fun r hr => by subst hr; exact hQ0
  refine zM_of (by decide +kernel) (Nat.le_of_ble_eq_true rfl) ?_
  unfold misLetter at h
  refine zV_eq (lo2 := [(0, .ref am), (1, .int x1)]) rfl rfl rfl rfl ?_
  refine zV_blk (pc' := 2) (lo' := [(0, .ref am), (1, .int x1)]) (st' := [.ref am, .int x1]) [.iload_n 1, .aload_n 0] (by decide +kernel) rfl ?_
  refine m_get (idx := 52) (k := 3) (v := .int (F 3)) hW m_in12 (by decide) (zT_mem 1443 (by decide +kernel) rfl) rfl (by decide +kernel) ?_
  refine zV_icmp_ge (tgt := 31) (off := 26) (by decide +kernel) (by decide) (fun q => ?_) (fun q => ?_)
  · replace h := zif_pos q h
    clear q
    refine zV_blk (pc' := 32) (lo' := [(0, .ref am), (1, .int x1)]) (st' := [.int 0]) [.iconst 0] (by decide +kernel) rfl ?_
    obtain rfl := Option.some.inj h
    refine zV_eq (st2 := [.int (zb false)]) rfl rfl rfl rfl ?_
    exact zV_bret rfl (by decide +kernel) (hQ _ rfl)
  · replace h := zif_neg q h
    clear q
    refine zV_blk (pc' := 9) (lo' := [(0, .ref am), (1, .int x1)]) (st' := [.ref am]) [.aload_n 0] (by decide +kernel) rfl ?_
    refine m_get (idx := 7) (k := 1) (v := .ref a1) hW m_in12 (by decide) (zT_mem 1441 (by decide +kernel) rfl) rfl (by decide +kernel) ?_
    refine zV_blk (pc' := 13) (lo' := [(0, .ref am), (1, .int x1)]) (st' := [.int x1, .ref a1]) [.iload_n 1] (by decide +kernel) rfl ?_
    obtain ⟨hz, h⟩ := zck_some h
    refine m_tld hW hz (by decide +kernel) ?_
    refine zV_blk (pc' := 15) (lo' := [(0, .ref am), (1, .int x1)]) (st' := [.long ((tp (x1 : Int32).toNatClampNeg) : Int32).toInt64]) [.i2l] (by decide +kernel) rfl ?_
    refine zV_ldc2 (idx := 67) (v := 97) (zT_mem 1568 (by decide +kernel) rfl) (by decide +kernel) ?_
    refine zV_ldc2 (idx := 69) (v := 122) (zT_mem 1569 (by decide +kernel) rfl) (by decide +kernel) ?_
    obtain ⟨v1, hv1, h⟩ := zbind h
    refine zV_sC (idx := 36) (rest := []) (cmisIn s0 D cB cI cJ cD ((tp (x1 : Int32).toNatClampNeg) : Int32).toInt64 97 122 v1 hv1) oX12_isIn (zT_mem 1531 (by decide +kernel) rfl) (zT_mem 1532 (by decide +kernel) rfl) rfl rfl (Nat.le_of_ble_eq_true rfl) ⟨by decide, by decide⟩ (by decide +kernel) ?_
    refine zV_eq (st2 := [.int (zb v1)]) rfl rfl rfl rfl ?_
    refine zV_bif_eq (tgt := 31) (off := 7) (by decide +kernel) (by decide) (fun q => ?_) (fun q => ?_)
    · replace h := zif_neg q h
      clear q
      refine zV_blk (pc' := 32) (lo' := [(0, .ref am), (1, .int x1)]) (st' := [.int 0]) [.iconst 0] (by decide +kernel) rfl ?_
      obtain rfl := Option.some.inj h
      refine zV_eq (st2 := [.int (zb false)]) rfl rfl rfl rfl ?_
      exact zV_bret rfl (by decide +kernel) (hQ _ rfl)
    · replace h := zif_pos q h
      clear q
      refine zV_blk (pc' := 28) (lo' := [(0, .ref am), (1, .int x1)]) (st' := [.int 1]) [.iconst 1] (by decide +kernel) rfl ?_
      refine zV_goto (tgt := 32) (off := 4) (by decide +kernel) (by decide) ?_
      obtain rfl := Option.some.inj h
      refine zV_eq (st2 := [.int (zb true)]) rfl rfl rfl rfl ?_
      exact zV_bret rfl (by decide +kernel) (hQ _ rfl)

def misDigit (F : Nat → Int32) (tp : Nat → Int32) (x1 : Int32) : Option (Bool) := (if ((F 3) : Int32) ≤ (x1 : Int32) then some false else zck (zin (x1) 800) ((misIn ((tp (x1 : Int32).toNatClampNeg) : Int32).toInt64 48 57).bind (fun v1 => (if v1 = true then some true else some false))))
theorem oX12_isDigit : zO yX12_isDigit cX12_isDigit 2 (some .boolean) 1 := ⟨zT_mem 1600 (by decide +kernel) rfl, zT_mem 94 (by decide +kernel) rfl, by decide +kernel, by decide +kernel, by decide +kernel⟩
set_option maxHeartbeats 4000000 in
set_option maxRecDepth 100000 in
theorem cmisDigit (s0 : State) (D : va_G) (cB cI cJ cD : ClassId) (am a1 a2 a3 : Nat) (F : Nat → Int32) (G : Nat → Int64) (tp w oc : Nat → Int32) (x1 : Int32) (x : Bool) (h : misDigit F tp x1 = some x) : mR s0 D cB cI cJ cD am a1 a2 a3 yX12_isDigit cX12_isDigit 2 (some .boolean) 1 25 [.int x1] F G tp w oc (some (.int (zb x))) := by
  intro hi hm nx Q hW hQ0
  have hQ : ∀ r : Bool, x = r → Q (some (.int (zb r))) hi hm nx := fun r hr => by subst hr; exact hQ0
  refine zM_of (by decide +kernel) (Nat.le_of_ble_eq_true rfl) ?_
  unfold misDigit at h
  refine zV_eq (lo2 := [(0, .ref am), (1, .int x1)]) rfl rfl rfl rfl ?_
  refine zV_blk (pc' := 2) (lo' := [(0, .ref am), (1, .int x1)]) (st' := [.ref am, .int x1]) [.iload_n 1, .aload_n 0] (by decide +kernel) rfl ?_
  refine m_get (idx := 52) (k := 3) (v := .int (F 3)) hW m_in12 (by decide) (zT_mem 1443 (by decide +kernel) rfl) rfl (by decide +kernel) ?_
  refine zV_icmp_ge (tgt := 31) (off := 26) (by decide +kernel) (by decide) (fun q => ?_) (fun q => ?_)
  · replace h := zif_pos q h
    clear q
    refine zV_blk (pc' := 32) (lo' := [(0, .ref am), (1, .int x1)]) (st' := [.int 0]) [.iconst 0] (by decide +kernel) rfl ?_
    obtain rfl := Option.some.inj h
    refine zV_eq (st2 := [.int (zb false)]) rfl rfl rfl rfl ?_
    exact zV_bret rfl (by decide +kernel) (hQ _ rfl)
  · replace h := zif_neg q h
    clear q
    refine zV_blk (pc' := 9) (lo' := [(0, .ref am), (1, .int x1)]) (st' := [.ref am]) [.aload_n 0] (by decide +kernel) rfl ?_
    refine m_get (idx := 7) (k := 1) (v := .ref a1) hW m_in12 (by decide) (zT_mem 1441 (by decide +kernel) rfl) rfl (by decide +kernel) ?_
    refine zV_blk (pc' := 13) (lo' := [(0, .ref am), (1, .int x1)]) (st' := [.int x1, .ref a1]) [.iload_n 1] (by decide +kernel) rfl ?_
    obtain ⟨hz, h⟩ := zck_some h
    refine m_tld hW hz (by decide +kernel) ?_
    refine zV_blk (pc' := 15) (lo' := [(0, .ref am), (1, .int x1)]) (st' := [.long ((tp (x1 : Int32).toNatClampNeg) : Int32).toInt64]) [.i2l] (by decide +kernel) rfl ?_
    refine zV_ldc2 (idx := 71) (v := 48) (zT_mem 1601 (by decide +kernel) rfl) (by decide +kernel) ?_
    refine zV_ldc2 (idx := 73) (v := 57) (zT_mem 1602 (by decide +kernel) rfl) (by decide +kernel) ?_
    obtain ⟨v1, hv1, h⟩ := zbind h
    refine zV_sC (idx := 36) (rest := []) (cmisIn s0 D cB cI cJ cD ((tp (x1 : Int32).toNatClampNeg) : Int32).toInt64 48 57 v1 hv1) oX12_isIn (zT_mem 1531 (by decide +kernel) rfl) (zT_mem 1532 (by decide +kernel) rfl) rfl rfl (Nat.le_of_ble_eq_true rfl) ⟨by decide, by decide⟩ (by decide +kernel) ?_
    refine zV_eq (st2 := [.int (zb v1)]) rfl rfl rfl rfl ?_
    refine zV_bif_eq (tgt := 31) (off := 7) (by decide +kernel) (by decide) (fun q => ?_) (fun q => ?_)
    · replace h := zif_neg q h
      clear q
      refine zV_blk (pc' := 32) (lo' := [(0, .ref am), (1, .int x1)]) (st' := [.int 0]) [.iconst 0] (by decide +kernel) rfl ?_
      obtain rfl := Option.some.inj h
      refine zV_eq (st2 := [.int (zb false)]) rfl rfl rfl rfl ?_
      exact zV_bret rfl (by decide +kernel) (hQ _ rfl)
    · replace h := zif_pos q h
      clear q
      refine zV_blk (pc' := 28) (lo' := [(0, .ref am), (1, .int x1)]) (st' := [.int 1]) [.iconst 1] (by decide +kernel) rfl ?_
      refine zV_goto (tgt := 32) (off := 4) (by decide +kernel) (by decide) ?_
      obtain rfl := Option.some.inj h
      refine zV_eq (st2 := [.int (zb true)]) rfl rfl rfl rfl ?_
      exact zV_bret rfl (by decide +kernel) (hQ _ rfl)

