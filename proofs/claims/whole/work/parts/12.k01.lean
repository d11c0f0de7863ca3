theorem z_in0 : ∀ w ∈ u_ws RX0 TX0 3, w ∈ zT := zT_all _ [569, 571, 573] (by decide +kernel) (by decide +kernel)
theorem z_in1 : ∀ w ∈ u_ws RX1 TX1 3, w ∈ zT := zT_all _ [444, 446, 448] (by decide +kernel) (by decide +kernel)
theorem z_in2 : ∀ w ∈ u_ws RX2 TX2 2, w ∈ zT := zT_all _ [708, 710] (by decide +kernel) (by decide +kernel)
theorem z_in3 : ∀ w ∈ u_ws RX3 TX3 6, w ∈ zT := zT_all _ [546, 548, 550, 552, 554, 556] (by decide +kernel) (by decide +kernel)
theorem z_in5 : ∀ w ∈ u_ws RX5 TX5 1, w ∈ zT := zT_all _ [472] (by decide +kernel) (by decide +kernel)
theorem z_in6 : ∀ w ∈ u_ws RX6 TX6 0, w ∈ zT := zT_all _ [] (by decide +kernel) (by decide +kernel)
theorem z_in8 : ∀ w ∈ u_ws RX8 TX8 2, w ∈ zT := zT_all _ [488, 490] (by decide +kernel) (by decide +kernel)
theorem z_in10 : ∀ w ∈ u_ws RX10 TX10 5, w ∈ zT := zT_all _ [286, 288, 290, 292, 294] (by decide +kernel) (by decide +kernel)
theorem zlsw2 {x d o0 o1 : Int} (h0 : x ≠ 0) (h1 : x ≠ 1) : Op.lookupswitch.offset #[((0 : Int), o0), (1, o1)].toList d x = d := by
  simp [Op.lookupswitch.offset, List.find?, Ne.symm h0, Ne.symm h1, h0, h1]

def j_abs (x0 : Int64) : Option (Int64) := (if (0 : Int64) ≤ (x0 : Int64) then some x0 else some (-x0))
theorem oJ9_abs_067f4 : zO yJ9_abs_067f4 cJ9_abs_067f4 2 (some .long) 1 := ⟨zT_mem 694 (by decide +kernel) rfl, zT_mem 96 (by decide +kernel) rfl, by decide +kernel, by decide +kernel, by decide +kernel⟩
set_option maxHeartbeats 4000000 in
set_option maxRecDepth 100000 in
theorem cj_abs (s0 : State) (D : va_G) (cB cI cJ cD : ClassId) (x0 : Int64) (x : Int64) (h : j_abs x0 = some x) {hi hm : zHp} {nx : Nat} {Q : Option Value → zHp → zHp → Nat → Prop} (hQ0 : Q (some (.long x)) hi hm nx) : zM s0 D (zty cB cI cJ cD) yJ9_abs_067f4 cJ9_abs_067f4 2 (some .long) 0 0 0 0 [.long x0] hi hm nx Q := by
  have hQ : ∀ r : Int64, x = r → Q (some (.long r)) hi hm nx := fun r hr => by subst hr; exact hQ0
  clear hQ0
  refine zM_ofF (by decide +kernel) (Nat.le_of_ble_eq_true rfl) ?_
  unfold j_abs at h
  refine zV_eq (lo2 := [(0, .long x0)]) rfl rfl rfl rfl ?_
  refine zV_blk (pc' := 3) (lo' := [(0, .long x0)]) (st' := [.int (lg_cmp x0 0)]) [.lload_n 0, .lconst 0, .lcmp] (by decide +kernel) rfl ?_
  refine zV_lcmp_ge (tgt := 11) (off := 8) (by decide +kernel) (by decide) (fun q => ?_) (fun q => ?_)
  · replace h := zif_pos q h
    clear q
    refine zV_blk (pc' := 12) (lo' := [(0, .long x0)]) (st' := [.long x0]) [.lload_n 0] (by decide +kernel) rfl ?_
    obtain rfl := Option.some.inj h
    exact zV_lret rfl (by decide +kernel) (hQ _ rfl)
  · replace h := zif_neg q h
    clear q
    refine zV_blk (pc' := 8) (lo' := [(0, .long x0)]) (st' := [.long (-x0)]) [.lload_n 0, .lneg] (by decide +kernel) rfl ?_
    refine zV_goto (tgt := 12) (off := 4) (by decide +kernel) (by decide) ?_
    obtain rfl := Option.some.inj h
    exact zV_lret rfl (by decide +kernel) (hQ _ rfl)

def j_fdivI (x0 : Int32) (x1 : Int32) : Option (Int32) := zck (decide (¬ (x1 : Int32) = 0)) ((if (0 : Int32) ≤ ((x0 ^^^ x1) : Int32) then some (x0 / x1) else (if (((x0 / x1) * x1) : Int32) = (x0 : Int32) then some (x0 / x1) else some ((x0 / x1) - 1))))
theorem oJ9_floorDiv_7cf53 : zO yJ9_floorDiv_7cf53 cJ9_floorDiv_7cf53 3 (some .int) 2 := ⟨zT_mem 639 (by decide +kernel) rfl, zT_mem 96 (by decide +kernel) rfl, by decide +kernel, by decide +kernel, by decide +kernel⟩
set_option maxHeartbeats 4000000 in
set_option maxRecDepth 100000 in
theorem cj_fdivI (s0 : State) (D : va_G) (cB cI cJ cD : ClassId) (x0 : Int32) (x1 : Int32) (x : Int32) (h : j_fdivI x0 x1 = some x) {hi hm : zHp} {nx : Nat} {Q : Option Value → zHp → zHp → Nat → Prop} (hQ0 : Q (some (.int x)) hi hm nx) : zM s0 D (zty cB cI cJ cD) yJ9_floorDiv_7cf53 cJ9_floorDiv_7cf53 3 (some .int) 0 0 0 0 [.int x0, .int x1] hi hm nx Q := by
  have hQ : ∀ r : Int32, x = r → Q (some (.int r)) hi hm nx := fun r hr => by subst hr; exact hQ0
  clear hQ0
  refine zM_ofF (by decide +kernel) (Nat.le_of_ble_eq_true rfl) ?_
  unfold j_fdivI at h
  refine zV_eq (lo2 := [(0, .int x0), (1, .int x1)]) rfl rfl rfl rfl ?_
  refine zV_blk (pc' := 2) (lo' := [(0, .int x0), (1, .int x1)]) (st' := [.int x1, .int x0]) [.iload_n 0, .iload_n 1] (by decide +kernel) rfl ?_
  obtain ⟨hz, h⟩ := zck_some h
  refine zV_idiv (by decide +kernel) (of_decide_eq_true hz) ?_
  refine zV_blk (pc' := 6) (lo' := [(2, .int (x0 / x1)), (0, .int x0), (1, .int x1)]) (st' := [.int x1, .int x0]) [.istore_n 2, .iload_n 0, .iload_n 1] (by decide +kernel) rfl ?_
  refine zV_ixor (by decide +kernel) ?_
  refine zV_if_ge (tgt := 21) (off := 14) (by decide +kernel) (by decide) (fun q => ?_) (fun q => ?_)
  · replace h := zif_pos q h
    clear q
    refine zV_blk (pc' := 22) (lo' := [(2, .int (x0 / x1)), (0, .int x0), (1, .int x1)]) (st' := [.int (x0 / x1)]) [.iload_n 2] (by decide +kernel) rfl ?_
    obtain rfl := Option.some.inj h
    exact zV_iret rfl (by decide +kernel) (hQ _ rfl)
  · replace h := zif_neg q h
    clear q
    refine zV_blk (pc' := 14) (lo' := [(2, .int (x0 / x1)), (0, .int x0), (1, .int x1)]) (st' := [.int x0, .int ((x0 / x1) * x1)]) [.iload_n 2, .iload_n 1, .imul, .iload_n 0] (by decide +kernel) rfl ?_
    refine zV_icmp_eq (tgt := 21) (off := 7) (by decide +kernel) (by decide) (fun q => ?_) (fun q => ?_)
    · replace h := zif_pos q h
      clear q
      refine zV_blk (pc' := 22) (lo' := [(2, .int (x0 / x1)), (0, .int x0), (1, .int x1)]) (st' := [.int (x0 / x1)]) [.iload_n 2] (by decide +kernel) rfl ?_
      obtain rfl := Option.some.inj h
      exact zV_iret rfl (by decide +kernel) (hQ _ rfl)
    · replace h := zif_neg q h
      clear q
      refine zV_blk (pc' := 20) (lo' := [(2, .int (x0 / x1)), (0, .int x0), (1, .int x1)]) (st' := [.int ((x0 / x1) - 1)]) [.iload_n 2, .iconst 1, .isub] (by decide +kernel) rfl ?_
      obtain rfl := Option.some.inj h
      exact zV_iret rfl (by decide +kernel) (hQ _ rfl)

def j_fdivL (x0 : Int64) (x2 : Int64) : Option (Int64) := zck (decide (¬ (x2 : Int64) = 0)) ((if (0 : Int64) ≤ ((x0 ^^^ x2) : Int64) then some (x0 / x2) else (if (((x0 / x2) * x2) : Int64) = (x0 : Int64) then some (x0 / x2) else some ((x0 / x2) - 1))))
theorem oJ9_floorDiv_f86c9 : zO yJ9_floorDiv_f86c9 cJ9_floorDiv_f86c9 6 (some .long) 2 := ⟨zT_mem 1199 (by decide +kernel) rfl, zT_mem 96 (by decide +kernel) rfl, by decide +kernel, by decide +kernel, by decide +kernel⟩
set_option maxHeartbeats 4000000 in
set_option maxRecDepth 100000 in
theorem cj_fdivL (s0 : State) (D : va_G) (cB cI cJ cD : ClassId) (x0 : Int64) (x2 : Int64) (x : Int64) (h : j_fdivL x0 x2 = some x) {hi hm : zHp} {nx : Nat} {Q : Option Value → zHp → zHp → Nat → Prop} (hQ0 : Q (some (.long x)) hi hm nx) : zM s0 D (zty cB cI cJ cD) yJ9_floorDiv_f86c9 cJ9_floorDiv_f86c9 6 (some .long) 0 0 0 0 [.long x0, .long x2] hi hm nx Q := by
  have hQ : ∀ r : Int64, x = r → Q (some (.long r)) hi hm nx := fun r hr => by subst hr; exact hQ0
  clear hQ0
  refine zM_ofF (by decide +kernel) (Nat.le_of_ble_eq_true rfl) ?_
  unfold j_fdivL at h
  refine zV_eq (lo2 := [(0, .long x0), (2, .long x2)]) rfl rfl rfl rfl ?_
  refine zV_blk (pc' := 2) (lo' := [(0, .long x0), (2, .long x2)]) (st' := [.long x2, .long x0]) [.lload_n 0, .lload_n 2] (by decide +kernel) rfl ?_
  obtain ⟨hz, h⟩ := zck_some h
  refine zV_ldiv (by decide +kernel) (of_decide_eq_true hz) ?_
  refine zV_blk (pc' := 7) (lo' := [(4, .long (x0 / x2)), (0, .long x0), (2, .long x2)]) (st' := [.long x2, .long x0]) [.lstore 4, .lload_n 0, .lload_n 2] (by decide +kernel) rfl ?_
  refine zV_lxor (by decide +kernel) ?_
  refine zV_blk (pc' := 10) (lo' := [(4, .long (x0 / x2)), (0, .long x0), (2, .long x2)]) (st' := [.int (lg_cmp (x0 ^^^ x2) 0)]) [.lconst 0, .lcmp] (by decide +kernel) rfl ?_
  refine zV_lcmp_ge (tgt := 27) (off := 17) (by decide +kernel) (by decide) (fun q => ?_) (fun q => ?_)
  · replace h := zif_pos q h
    clear q
    refine zV_blk (pc' := 29) (lo' := [(4, .long (x0 / x2)), (0, .long x0), (2, .long x2)]) (st' := [.long (x0 / x2)]) [.lload 4] (by decide +kernel) rfl ?_
    obtain rfl := Option.some.inj h
    exact zV_lret rfl (by decide +kernel) (hQ _ rfl)
  · replace h := zif_neg q h
    clear q
    refine zV_blk (pc' := 19) (lo' := [(4, .long (x0 / x2)), (0, .long x0), (2, .long x2)]) (st' := [.int (lg_cmp ((x0 / x2) * x2) x0)]) [.lload 4, .lload_n 2, .lmul, .lload_n 0, .lcmp] (by decide +kernel) rfl ?_
    refine zV_lcmp_eq (tgt := 27) (off := 8) (by decide +kernel) (by decide) (fun q => ?_) (fun q => ?_)
    · replace h := zif_pos q h
      clear q
      refine zV_blk (pc' := 29) (lo' := [(4, .long (x0 / x2)), (0, .long x0), (2, .long x2)]) (st' := [.long (x0 / x2)]) [.lload 4] (by decide +kernel) rfl ?_
      obtain rfl := Option.some.inj h
      exact zV_lret rfl (by decide +kernel) (hQ _ rfl)
    · replace h := zif_neg q h
      clear q
      refine zV_blk (pc' := 26) (lo' := [(4, .long (x0 / x2)), (0, .long x0), (2, .long x2)]) (st' := [.long ((x0 / x2) - 1)]) [.lload 4, .lconst 1, .lsub] (by decide +kernel) rfl ?_
      obtain rfl := Option.some.inj h
      exact zV_lret rfl (by decide +kernel) (hQ _ rfl)

def j_fmodI (x0 : Int32) (x1 : Int32) : Option (Int32) := zck (decide (¬ (x1 : Int32) = 0)) ((if (0 : Int32) ≤ ((x0 ^^^ x1) : Int32) then some (x0 - x0 / x1 * x1) else (if ((x0 - x0 / x1 * x1) : Int32) = (0 : Int32) then some (x0 - x0 / x1 * x1) else some ((x0 - x0 / x1 * x1) + x1))))
theorem oJ9_floorMod_7cf53 : zO yJ9_floorMod_7cf53 cJ9_floorMod_7cf53 3 (some .int) 2 := ⟨zT_mem 650 (by decide +kernel) rfl, zT_mem 96 (by decide +kernel) rfl, by decide +kernel, by decide +kernel, by decide +kernel⟩
set_option maxHeartbeats 4000000 in
set_option maxRecDepth 100000 in
theorem cj_fmodI (s0 : State) (D : va_G) (cB cI cJ cD : ClassId) (x0 : Int32) (x1 : Int32) (x : Int32) (h : j_fmodI x0 x1 = some x) {hi hm : zHp} {nx : Nat} {Q : Option Value → zHp → zHp → Nat → Prop} (hQ0 : Q (some (.int x)) hi hm nx) : zM s0 D (zty cB cI cJ cD) yJ9_floorMod_7cf53 cJ9_floorMod_7cf53 3 (some .int) 0 0 0 0 [.int x0, .int x1] hi hm nx Q := by
  have hQ : ∀ r : Int32, x = r → Q (some (.int r)) hi hm nx := fun r hr => by subst hr; exact hQ0
  clear hQ0
  refine zM_ofF (by decide +kernel) (Nat.le_of_ble_eq_true rfl) ?_
  unfold j_fmodI at h
  refine zV_eq (lo2 := [(0, .int x0), (1, .int x1)]) rfl rfl rfl rfl ?_
  refine zV_blk (pc' := 2) (lo' := [(0, .int x0), (1, .int x1)]) (st' := [.int x1, .int x0]) [.iload_n 0, .iload_n 1] (by decide +kernel) rfl ?_
  obtain ⟨hz, h⟩ := zck_some h
  refine zV_irem (by decide +kernel) (of_decide_eq_true hz) ?_
  refine zV_blk (pc' := 6) (lo' := [(2, .int (x0 - x0 / x1 * x1)), (0, .int x0), (1, .int x1)]) (st' := [.int x1, .int x0]) [.istore_n 2, .iload_n 0, .iload_n 1] (by decide +kernel) rfl ?_
  refine zV_ixor (by decide +kernel) ?_
  refine zV_if_ge (tgt := 18) (off := 11) (by decide +kernel) (by decide) (fun q => ?_) (fun q => ?_)
  · replace h := zif_pos q h
    clear q
    refine zV_blk (pc' := 19) (lo' := [(2, .int (x0 - x0 / x1 * x1)), (0, .int x0), (1, .int x1)]) (st' := [.int (x0 - x0 / x1 * x1)]) [.iload_n 2] (by decide +kernel) rfl ?_
    obtain rfl := Option.some.inj h
    exact zV_iret rfl (by decide +kernel) (hQ _ rfl)
  · replace h := zif_neg q h
    clear q
    refine zV_blk (pc' := 11) (lo' := [(2, .int (x0 - x0 / x1 * x1)), (0, .int x0), (1, .int x1)]) (st' := [.int (x0 - x0 / x1 * x1)]) [.iload_n 2] (by decide +kernel) rfl ?_
    refine zV_if_eq (tgt := 18) (off := 7) (by decide +kernel) (by decide) (fun q => ?_) (fun q => ?_)
    · replace h := zif_pos q h
      clear q
      refine zV_blk (pc' := 19) (lo' := [(2, .int (x0 - x0 / x1 * x1)), (0, .int x0), (1, .int x1)]) (st' := [.int (x0 - x0 / x1 * x1)]) [.iload_n 2] (by decide +kernel) rfl ?_
      obtain rfl := Option.some.inj h
      exact zV_iret rfl (by decide +kernel) (hQ _ rfl)
    · replace h := zif_neg q h
      clear q
      refine zV_blk (pc' := 17) (lo' := [(2, .int (x0 - x0 / x1 * x1)), (0, .int x0), (1, .int x1)]) (st' := [.int ((x0 - x0 / x1 * x1) + x1)]) [.iload_n 2, .iload_n 1, .iadd] (by decide +kernel) rfl ?_
      obtain rfl := Option.some.inj h
      exact zV_iret rfl (by decide +kernel) (hQ _ rfl)

def j_fmodL (x0 : Int64) (x2 : Int64) : Option (Int64) := zck (decide (¬ (x2 : Int64) = 0)) ((if (0 : Int64) ≤ ((x0 ^^^ x2) : Int64) then some (x0 - x0 / x2 * x2) else (if ((x0 - x0 / x2 * x2) : Int64) = (0 : Int64) then some (x0 - x0 / x2 * x2) else some ((x0 - x0 / x2 * x2) + x2))))
theorem oJ9_floorMod_f86c9 : zO yJ9_floorMod_f86c9 cJ9_floorMod_f86c9 6 (some .long) 2 := ⟨zT_mem 1086 (by decide +kernel) rfl, zT_mem 96 (by decide +kernel) rfl, by decide +kernel, by decide +kernel, by decide +kernel⟩
set_option maxHeartbeats 4000000 in
set_option maxRecDepth 100000 in
theorem cj_fmodL (s0 : State) (D : va_G) (cB cI cJ cD : ClassId) (x0 : Int64) (x2 : Int64) (x : Int64) (h : j_fmodL x0 x2 = some x) {hi hm : zHp} {nx : Nat} {Q : Option Value → zHp → zHp → Nat → Prop} (hQ0 : Q (some (.long x)) hi hm nx) : zM s0 D (zty cB cI cJ cD) yJ9_floorMod_f86c9 cJ9_floorMod_f86c9 6 (some .long) 0 0 0 0 [.long x0, .long x2] hi hm nx Q := by
  have hQ : ∀ r : Int64, x = r → Q (some (.long r)) hi hm nx := fun r hr => by subst hr; exact hQ0
  clear hQ0
  refine zM_ofF (by decide +kernel) (Nat.le_of_ble_eq_true rfl) ?_
  unfold j_fmodL at h
  refine zV_eq (lo2 := [(0, .long x0), (2, .long x2)]) rfl rfl rfl rfl ?_
  refine zV_blk (pc' := 2) (lo' := [(0, .long x0), (2, .long x2)]) (st' := [.long x2, .long x0]) [.lload_n 0, .lload_n 2] (by decide +kernel) rfl ?_
  obtain ⟨hz, h⟩ := zck_some h
  refine zV_lrem (by decide +kernel) (of_decide_eq_true hz) ?_
  refine zV_blk (pc' := 7) (lo' := [(4, .long (x0 - x0 / x2 * x2)), (0, .long x0), (2, .long x2)]) (st' := [.long x2, .long x0]) [.lstore 4, .lload_n 0, .lload_n 2] (by decide +kernel) rfl ?_
  refine zV_lxor (by decide +kernel) ?_
  refine zV_blk (pc' := 10) (lo' := [(4, .long (x0 - x0 / x2 * x2)), (0, .long x0), (2, .long x2)]) (st' := [.int (lg_cmp (x0 ^^^ x2) 0)]) [.lconst 0, .lcmp] (by decide +kernel) rfl ?_
  refine zV_lcmp_ge (tgt := 25) (off := 15) (by decide +kernel) (by decide) (fun q => ?_) (fun q => ?_)
  · replace h := zif_pos q h
    clear q
    refine zV_blk (pc' := 27) (lo' := [(4, .long (x0 - x0 / x2 * x2)), (0, .long x0), (2, .long x2)]) (st' := [.long (x0 - x0 / x2 * x2)]) [.lload 4] (by decide +kernel) rfl ?_
    obtain rfl := Option.some.inj h
    exact zV_lret rfl (by decide +kernel) (hQ _ rfl)
  · replace h := zif_neg q h
    clear q
    refine zV_blk (pc' := 17) (lo' := [(4, .long (x0 - x0 / x2 * x2)), (0, .long x0), (2, .long x2)]) (st' := [.int (lg_cmp (x0 - x0 / x2 * x2) 0)]) [.lload 4, .lconst 0, .lcmp] (by decide +kernel) rfl ?_
    refine zV_lcmp_eq (tgt := 25) (off := 8) (by decide +kernel) (by decide) (fun q => ?_) (fun q => ?_)
    · replace h := zif_pos q h
      clear q
      refine zV_blk (pc' := 27) (lo' := [(4, .long (x0 - x0 / x2 * x2)), (0, .long x0), (2, .long x2)]) (st' := [.long (x0 - x0 / x2 * x2)]) [.lload 4] (by decide +kernel) rfl ?_
      obtain rfl := Option.some.inj h
      exact zV_lret rfl (by decide +kernel) (hQ _ rfl)
    · replace h := zif_neg q h
      clear q
      refine zV_blk (pc' := 24) (lo' := [(4, .long (x0 - x0 / x2 * x2)), (0, .long x0), (2, .long x2)]) (st' := [.long ((x0 - x0 / x2 * x2) + x2)]) [.lload 4, .lload_n 2, .ladd] (by decide +kernel) rfl ?_
      obtain rfl := Option.some.inj h
      exact zV_lret rfl (by decide +kernel) (hQ _ rfl)

def j_maxI (x0 : Int32) (x1 : Int32) : Option (Int32) := (if (x0 : Int32) < (x1 : Int32) then some x1 else some x0)
theorem oJ9_max_7cf53 : zO yJ9_max_7cf53 cJ9_max_7cf53 2 (some .int) 2 := ⟨zT_mem 276 (by decide +kernel) rfl, zT_mem 96 (by decide +kernel) rfl, by decide +kernel, by decide +kernel, by decide +kernel⟩
set_option maxHeartbeats 4000000 in
set_option maxRecDepth 100000 in
theorem cj_maxI (s0 : State) (D : va_G) (cB cI cJ cD : ClassId) (x0 : Int32) (x1 : Int32) (x : Int32) (h : j_maxI x0 x1 = some x) {hi hm : zHp} {nx : Nat} {Q : Option Value → zHp → zHp → Nat → Prop} (hQ0 : Q (some (.int x)) hi hm nx) : zM s0 D (zty cB cI cJ cD) yJ9_max_7cf53 cJ9_max_7cf53 2 (some .int) 0 0 0 0 [.int x0, .int x1] hi hm nx Q := by
  have hQ : ∀ r : Int32, x = r → Q (some (.int r)) hi hm nx := fun r hr => by subst hr; exact hQ0
  clear hQ0
  refine zM_ofF (by decide +kernel) (Nat.le_of_ble_eq_true rfl) ?_
  unfold j_maxI at h
  refine zV_eq (lo2 := [(0, .int x0), (1, .int x1)]) rfl rfl rfl rfl ?_
  refine zV_blk (pc' := 2) (lo' := [(0, .int x0), (1, .int x1)]) (st' := [.int x1, .int x0]) [.iload_n 0, .iload_n 1] (by decide +kernel) rfl ?_
  refine zV_icmp_lt (tgt := 9) (off := 7) (by decide +kernel) (by decide) (fun q => ?_) (fun q => ?_)
  · replace h := zif_pos q h
    clear q
    refine zV_blk (pc' := 10) (lo' := [(0, .int x0), (1, .int x1)]) (st' := [.int x1]) [.iload_n 1] (by decide +kernel) rfl ?_
    obtain rfl := Option.some.inj h
    exact zV_iret rfl (by decide +kernel) (hQ _ rfl)
  · replace h := zif_neg q h
    clear q
    refine zV_blk (pc' := 6) (lo' := [(0, .int x0), (1, .int x1)]) (st' := [.int x0]) [.iload_n 0] (by decide +kernel) rfl ?_
    refine zV_goto (tgt := 10) (off := 4) (by decide +kernel) (by decide) ?_
    obtain rfl := Option.some.inj h
    exact zV_iret rfl (by decide +kernel) (hQ _ rfl)

def j_maxL (x0 : Int64) (x2 : Int64) : Option (Int64) := (if (x0 : Int64) < (x2 : Int64) then some x2 else some x0)
theorem oJ9_max_f86c9 : zO yJ9_max_f86c9 cJ9_max_f86c9 4 (some .long) 2 := ⟨zT_mem 697 (by decide +kernel) rfl, zT_mem 96 (by decide +kernel) rfl, by decide +kernel, by decide +kernel, by decide +kernel⟩
set_option maxHeartbeats 4000000 in
set_option maxRecDepth 100000 in
theorem cj_maxL (s0 : State) (D : va_G) (cB cI cJ cD : ClassId) (x0 : Int64) (x2 : Int64) (x : Int64) (h : j_maxL x0 x2 = some x) {hi hm : zHp} {nx : Nat} {Q : Option Value → zHp → zHp → Nat → Prop} (hQ0 : Q (some (.long x)) hi hm nx) : zM s0 D (zty cB cI cJ cD) yJ9_max_f86c9 cJ9_max_f86c9 4 (some .long) 0 0 0 0 [.long x0, .long x2] hi hm nx Q := by
  have hQ : ∀ r : Int64, x = r → Q (some (.long r)) hi hm nx := fun r hr => by subst hr; exact hQ0
  clear hQ0
  refine zM_ofF (by decide +kernel) (Nat.le_of_ble_eq_true rfl) ?_
  unfold j_maxL at h
  refine zV_eq (lo2 := [(0, .long x0), (2, .long x2)]) rfl rfl rfl rfl ?_
  refine zV_blk (pc' := 3) (lo' := [(0, .long x0), (2, .long x2)]) (st' := [.int (lg_cmp x0 x2)]) [.lload_n 0, .lload_n 2, .lcmp] (by decide +kernel) rfl ?_
  refine zV_lcmp_lt (tgt := 10) (off := 7) (by decide +kernel) (by decide) (fun q => ?_) (fun q => ?_)
  · replace h := zif_pos q h
    clear q
    refine zV_blk (pc' := 11) (lo' := [(0, .long x0), (2, .long x2)]) (st' := [.long x2]) [.lload_n 2] (by decide +kernel) rfl ?_
    obtain rfl := Option.some.inj h
    exact zV_lret rfl (by decide +kernel) (hQ _ rfl)
  · replace h := zif_neg q h
    clear q
    refine zV_blk (pc' := 7) (lo' := [(0, .long x0), (2, .long x2)]) (st' := [.long x0]) [.lload_n 0] (by decide +kernel) rfl ?_
    refine zV_goto (tgt := 11) (off := 4) (by decide +kernel) (by decide) ?_
    obtain rfl := Option.some.inj h
    exact zV_lret rfl (by decide +kernel) (hQ _ rfl)

def j_minI (x0 : Int32) (x1 : Int32) : Option (Int32) := (if (x1 : Int32) < (x0 : Int32) then some x1 else some x0)
theorem oJ9_min_7cf53 : zO yJ9_min_7cf53 cJ9_min_7cf53 2 (some .int) 2 := ⟨zT_mem 226 (by decide +kernel) rfl, zT_mem 96 (by decide +kernel) rfl, by decide +kernel, by decide +kernel, by decide +kernel⟩
set_option maxHeartbeats 4000000 in
set_option maxRecDepth 100000 in
theorem cj_minI (s0 : State) (D : va_G) (cB cI cJ cD : ClassId) (x0 : Int32) (x1 : Int32) (x : Int32) (h : j_minI x0 x1 = some x) {hi hm : zHp} {nx : Nat} {Q : Option Value → zHp → zHp → Nat → Prop} (hQ0 : Q (some (.int x)) hi hm nx) : zM s0 D (zty cB cI cJ cD) yJ9_min_7cf53 cJ9_min_7cf53 2 (some .int) 0 0 0 0 [.int x0, .int x1] hi hm nx Q := by
  have hQ : ∀ r : Int32, x = r → Q (some (.int r)) hi hm nx := fun r hr => by subst hr; exact hQ0
  clear hQ0
  refine zM_ofF (by decide +kernel) (Nat.le_of_ble_eq_true rfl) ?_
  unfold j_minI at h
  refine zV_eq (lo2 := [(0, .int x0), (1, .int x1)]) rfl rfl rfl rfl ?_
  refine zV_blk (pc' := 2) (lo' := [(0, .int x0), (1, .int x1)]) (st' := [.int x1, .int x0]) [.iload_n 0, .iload_n 1] (by decide +kernel) rfl ?_
  refine zV_icmp_gt (tgt := 9) (off := 7) (by decide +kernel) (by decide) (fun q => ?_) (fun q => ?_)
  · replace h := zif_pos q h
    clear q
    refine zV_blk (pc' := 10) (lo' := [(0, .int x0), (1, .int x1)]) (st' := [.int x1]) [.iload_n 1] (by decide +kernel) rfl ?_
    obtain rfl := Option.some.inj h
    exact zV_iret rfl (by decide +kernel) (hQ _ rfl)
  · replace h := zif_neg q h
    clear q
    refine zV_blk (pc' := 6) (lo' := [(0, .int x0), (1, .int x1)]) (st' := [.int x0]) [.iload_n 0] (by decide +kernel) rfl ?_
    refine zV_goto (tgt := 10) (off := 4) (by decide +kernel) (by decide) ?_
    obtain rfl := Option.some.inj h
    exact zV_iret rfl (by decide +kernel) (hQ _ rfl)

def j_minL (x0 : Int64) (x2 : Int64) : Option (Int64) := (if (x2 : Int64) < (x0 : Int64) then some x2 else some x0)
theorem oJ9_min_f86c9 : zO yJ9_min_f86c9 cJ9_min_f86c9 4 (some .long) 2 := ⟨zT_mem 1180 (by decide +kernel) rfl, zT_mem 96 (by decide +kernel) rfl, by decide +kernel, by decide +kernel, by decide +kernel⟩
set_option maxHeartbeats 4000000 in
set_option maxRecDepth 100000 in
theorem cj_minL (s0 : State) (D : va_G) (cB cI cJ cD : ClassId) (x0 : Int64) (x2 : Int64) (x : Int64) (h : j_minL x0 x2 = some x) {hi hm : zHp} {nx : Nat} {Q : Option Value → zHp → zHp → Nat → Prop} (hQ0 : Q (some (.long x)) hi hm nx) : zM s0 D (zty cB cI cJ cD) yJ9_min_f86c9 cJ9_min_f86c9 4 (some .long) 0 0 0 0 [.long x0, .long x2] hi hm nx Q := by
  have hQ : ∀ r : Int64, x = r → Q (some (.long r)) hi hm nx := fun r hr => by subst hr; exact hQ0
  clear hQ0
  refine zM_ofF (by decide +kernel) (Nat.le_of_ble_eq_true rfl) ?_
  unfold j_minL at h
  refine zV_eq (lo2 := [(0, .long x0), (2, .long x2)]) rfl rfl rfl rfl ?_
  refine zV_blk (pc' := 3) (lo' := [(0, .long x0), (2, .long x2)]) (st' := [.int (lg_cmp x0 x2)]) [.lload_n 0, .lload_n 2, .lcmp] (by decide +kernel) rfl ?_
  refine zV_lcmp_gt (tgt := 10) (off := 7) (by decide +kernel) (by decide) (fun q => ?_) (fun q => ?_)
  · replace h := zif_pos q h
    clear q
    refine zV_blk (pc' := 11) (lo' := [(0, .long x0), (2, .long x2)]) (st' := [.long x2]) [.lload_n 2] (by decide +kernel) rfl ?_
    obtain rfl := Option.some.inj h
    exact zV_lret rfl (by decide +kernel) (hQ _ rfl)
  · replace h := zif_neg q h
    clear q
    refine zV_blk (pc' := 7) (lo' := [(0, .long x0), (2, .long x2)]) (st' := [.long x0]) [.lload_n 0] (by decide +kernel) rfl ?_
    refine zV_goto (tgt := 11) (off := 4) (by decide +kernel) (by decide) ?_
    obtain rfl := Option.some.inj h
    exact zV_lret rfl (by decide +kernel) (hQ _ rfl)

def k_isSlot (x0 : Int32) : Option (Bool) := (if (x0 : Int32) < (0 : Int32) then some false else (if (6 : Int32) ≤ (x0 : Int32) then some false else some true))
theorem oX11_isSlot : zO yX11_isSlot cX11_isSlot 1 (some .boolean) 1 := ⟨zT_mem 217 (by decide +kernel) rfl, zT_mem 89 (by decide +kernel) rfl, by decide +kernel, by decide +kernel, by decide +kernel⟩
set_option maxHeartbeats 4000000 in
set_option maxRecDepth 100000 in
theorem ck_isSlot (s0 : State) (D : va_G) (cB cI cJ cD : ClassId) (x0 : Int32) (x : Bool) (h : k_isSlot x0 = some x) {hi hm : zHp} {nx : Nat} {Q : Option Value → zHp → zHp → Nat → Prop} (hQ0 : Q (some (.int (zb x))) hi hm nx) : zM s0 D (zty cB cI cJ cD) yX11_isSlot cX11_isSlot 1 (some .boolean) 0 0 0 0 [.int x0] hi hm nx Q := by
  have hQ : ∀ r : Bool, x = r → Q (some (.int (zb r))) hi hm nx := fun r hr => by subst hr; exact hQ0
  clear hQ0
  refine zM_of (by decide +kernel) (Nat.le_of_ble_eq_true rfl) ?_
  unfold k_isSlot at h
  refine zV_eq (lo2 := [(0, .int x0)]) rfl rfl rfl rfl ?_
  refine zV_blk (pc' := 1) (lo' := [(0, .int x0)]) (st' := [.int x0]) [.iload_n 0] (by decide +kernel) rfl ?_
  refine zV_if_lt (tgt := 14) (off := 13) (by decide +kernel) (by decide) (fun q => ?_) (fun q => ?_)
  · replace h := zif_pos q h
    clear q
    refine zV_blk (pc' := 15) (lo' := [(0, .int x0)]) (st' := [.int 0]) [.iconst 0] (by decide +kernel) rfl ?_
    obtain rfl := Option.some.inj h
    refine zV_eq (st2 := [.int (zb false)]) rfl rfl rfl rfl ?_
    exact zV_bret rfl (by decide +kernel) (hQ _ rfl)
  · replace h := zif_neg q h
    clear q
    refine zV_blk (pc' := 7) (lo' := [(0, .int x0)]) (st' := [.int 6, .int x0]) [.iload_n 0, .bipush 6] (by decide +kernel) rfl ?_
    refine zV_icmp_ge (tgt := 14) (off := 7) (by decide +kernel) (by decide) (fun q => ?_) (fun q => ?_)
    · replace h := zif_pos q h
      clear q
      refine zV_blk (pc' := 15) (lo' := [(0, .int x0)]) (st' := [.int 0]) [.iconst 0] (by decide +kernel) rfl ?_
      obtain rfl := Option.some.inj h
      refine zV_eq (st2 := [.int (zb false)]) rfl rfl rfl rfl ?_
      exact zV_bret rfl (by decide +kernel) (hQ _ rfl)
    · replace h := zif_neg q h
      clear q
      refine zV_blk (pc' := 11) (lo' := [(0, .int x0)]) (st' := [.int 1]) [.iconst 1] (by decide +kernel) rfl ?_
      refine zV_goto (tgt := 15) (off := 4) (by decide +kernel) (by decide) ?_
      obtain rfl := Option.some.inj h
      refine zV_eq (st2 := [.int (zb true)]) rfl rfl rfl rfl ?_
      exact zV_bret rfl (by decide +kernel) (hQ _ rfl)

def k_isYear (x0 : Int32) : Option (Bool) := (if (x0 : Int32) < ((-100000) : Int32) then some false else (if (100000 : Int32) < (x0 : Int32) then some false else some true))
theorem oX11_isYear : zO yX11_isYear cX11_isYear 1 (some .boolean) 1 := ⟨zT_mem 1011 (by decide +kernel) rfl, zT_mem 89 (by decide +kernel) rfl, by decide +kernel, by decide +kernel, by decide +kernel⟩
set_option maxHeartbeats 4000000 in
set_option maxRecDepth 100000 in
theorem ck_isYear (s0 : State) (D : va_G) (cB cI cJ cD : ClassId) (x0 : Int32) (x : Bool) (h : k_isYear x0 = some x) {hi hm : zHp} {nx : Nat} {Q : Option Value → zHp → zHp → Nat → Prop} (hQ0 : Q (some (.int (zb x))) hi hm nx) : zM s0 D (zty cB cI cJ cD) yX11_isYear cX11_isYear 1 (some .boolean) 0 0 0 0 [.int x0] hi hm nx Q := by
  have hQ : ∀ r : Bool, x = r → Q (some (.int (zb r))) hi hm nx := fun r hr => by subst hr; exact hQ0
  clear hQ0
  refine zM_of (by decide +kernel) (Nat.le_of_ble_eq_true rfl) ?_
  unfold k_isYear at h
  refine zV_eq (lo2 := [(0, .int x0)]) rfl rfl rfl rfl ?_
  refine zV_blk (pc' := 1) (lo' := [(0, .int x0)]) (st' := [.int x0]) [.iload_n 0] (by decide +kernel) rfl ?_
  refine zV_ldcw (idx := 335) (v := (-100000)) (zT_mem 1012 (by decide +kernel) rfl) (by decide +kernel) ?_
  refine zV_icmp_lt (tgt := 18) (off := 14) (by decide +kernel) (by decide) (fun q => ?_) (fun q => ?_)
  · replace h := zif_pos q h
    clear q
    refine zV_blk (pc' := 19) (lo' := [(0, .int x0)]) (st' := [.int 0]) [.iconst 0] (by decide +kernel) rfl ?_
    obtain rfl := Option.some.inj h
    refine zV_eq (st2 := [.int (zb false)]) rfl rfl rfl rfl ?_
    exact zV_bret rfl (by decide +kernel) (hQ _ rfl)
  · replace h := zif_neg q h
    clear q
    refine zV_blk (pc' := 8) (lo' := [(0, .int x0)]) (st' := [.int x0]) [.iload_n 0] (by decide +kernel) rfl ?_
    refine zV_ldcw (idx := 341) (v := 100000) (zT_mem 1013 (by decide +kernel) rfl) (by decide +kernel) ?_
    refine zV_icmp_gt (tgt := 18) (off := 7) (by decide +kernel) (by decide) (fun q => ?_) (fun q => ?_)
    · replace h := zif_pos q h
      clear q
      refine zV_blk (pc' := 19) (lo' := [(0, .int x0)]) (st' := [.int 0]) [.iconst 0] (by decide +kernel) rfl ?_
      obtain rfl := Option.some.inj h
      refine zV_eq (st2 := [.int (zb false)]) rfl rfl rfl rfl ?_
      exact zV_bret rfl (by decide +kernel) (hQ _ rfl)
    · replace h := zif_neg q h
      clear q
      refine zV_blk (pc' := 15) (lo' := [(0, .int x0)]) (st' := [.int 1]) [.iconst 1] (by decide +kernel) rfl ?_
      refine zV_goto (tgt := 19) (off := 4) (by decide +kernel) (by decide) ?_
      obtain rfl := Option.some.inj h
      refine zV_eq (st2 := [.int (zb true)]) rfl rfl rfl rfl ?_
      exact zV_bret rfl (by decide +kernel) (hQ _ rfl)

def k_isWalk (x0 : Int32) (x1 : Int32) : Option (Bool) := (k_isYear x0).bind (fun v1 => (if v1 = true then (k_isYear x1).bind (fun v2 => (if v2 = true then (if (x1 : Int32) < (x0 : Int32) then some false else (if (20000 : Int32) < ((x1 - x0) : Int32) then some false else some true)) else some false)) else some false))
theorem oX11_isWalk : zO yX11_isWalk cX11_isWalk 2 (some .boolean) 2 := ⟨zT_mem 1144 (by decide +kernel) rfl, zT_mem 89 (by decide +kernel) rfl, by decide +kernel, by decide +kernel, by decide +kernel⟩
set_option maxHeartbeats 4000000 in
set_option maxRecDepth 100000 in
theorem ck_isWalk (s0 : State) (D : va_G) (cB cI cJ cD : ClassId) (x0 : Int32) (x1 : Int32) (x : Bool) (h : k_isWalk x0 x1 = some x) {hi hm : zHp} {nx : Nat} {Q : Option Value → zHp → zHp → Nat → Prop} (hQ0 : Q (some (.int (zb x))) hi hm nx) : zM s0 D (zty cB cI cJ cD) yX11_isWalk cX11_isWalk 2 (some .boolean) 1 20 0 0 [.int x0, .int x1] hi hm nx Q := by
  have hQ : ∀ r : Bool, x = r → Q (some (.int (zb r))) hi hm nx := fun r hr => by subst hr; exact hQ0
  clear hQ0
  refine zM_of (by decide +kernel) (Nat.le_of_ble_eq_true rfl) ?_
  unfold k_isWalk at h
  refine zV_eq (lo2 := [(0, .int x0), (1, .int x1)]) rfl rfl rfl rfl ?_
  refine zV_blk (pc' := 1) (lo' := [(0, .int x0), (1, .int x1)]) (st' := [.int x0]) [.iload_n 0] (by decide +kernel) rfl ?_
  obtain ⟨v1, hv1, h⟩ := zbind h
  refine zV_roS (idx := 220) (rest := []) (fun Q2 hQ2 => ck_isYear s0 D cB cI cJ cD x0  v1 hv1  hQ2) oX11_isYear (zT_mem 1009 (by decide +kernel) rfl) (zT_mem 1010 (by decide +kernel) rfl) rfl rfl (Nat.le_of_ble_eq_true rfl) ⟨by decide, by decide⟩ (by decide +kernel) ?_
  refine zV_eq (st2 := [.int (zb v1)]) rfl rfl rfl rfl ?_
  refine zV_bif_eq (tgt := 32) (off := 28) (by decide +kernel) (by decide) (fun q => ?_) (fun q => ?_)
  · replace h := zif_neg q h
    clear q
    refine zV_blk (pc' := 33) (lo' := [(0, .int x0), (1, .int x1)]) (st' := [.int 0]) [.iconst 0] (by decide +kernel) rfl ?_
    obtain rfl := Option.some.inj h
    refine zV_eq (st2 := [.int (zb false)]) rfl rfl rfl rfl ?_
    exact zV_bret rfl (by decide +kernel) (hQ _ rfl)
  · replace h := zif_pos q h
    clear q
    refine zV_blk (pc' := 8) (lo' := [(0, .int x0), (1, .int x1)]) (st' := [.int x1]) [.iload_n 1] (by decide +kernel) rfl ?_
    obtain ⟨v2, hv2, h⟩ := zbind h
    refine zV_roS (idx := 220) (rest := []) (fun Q2 hQ2 => ck_isYear s0 D cB cI cJ cD x1  v2 hv2  hQ2) oX11_isYear (zT_mem 1009 (by decide +kernel) rfl) (zT_mem 1010 (by decide +kernel) rfl) rfl rfl (Nat.le_of_ble_eq_true rfl) ⟨by decide, by decide⟩ (by decide +kernel) ?_
    refine zV_eq (st2 := [.int (zb v2)]) rfl rfl rfl rfl ?_
    refine zV_bif_eq (tgt := 32) (off := 21) (by decide +kernel) (by decide) (fun q => ?_) (fun q => ?_)
    · replace h := zif_neg q h
      clear q
      refine zV_blk (pc' := 33) (lo' := [(0, .int x0), (1, .int x1)]) (st' := [.int 0]) [.iconst 0] (by decide +kernel) rfl ?_
      obtain rfl := Option.some.inj h
      refine zV_eq (st2 := [.int (zb false)]) rfl rfl rfl rfl ?_
      exact zV_bret rfl (by decide +kernel) (hQ _ rfl)
    · replace h := zif_pos q h
      clear q
      refine zV_blk (pc' := 16) (lo' := [(0, .int x0), (1, .int x1)]) (st' := [.int x1, .int x0]) [.iload_n 0, .iload_n 1] (by decide +kernel) rfl ?_
      refine zV_icmp_gt (tgt := 32) (off := 16) (by decide +kernel) (by decide) (fun q => ?_) (fun q => ?_)
      · replace h := zif_pos q h
        clear q
        refine zV_blk (pc' := 33) (lo' := [(0, .int x0), (1, .int x1)]) (st' := [.int 0]) [.iconst 0] (by decide +kernel) rfl ?_
        obtain rfl := Option.some.inj h
        refine zV_eq (st2 := [.int (zb false)]) rfl rfl rfl rfl ?_
        exact zV_bret rfl (by decide +kernel) (hQ _ rfl)
      · replace h := zif_neg q h
        clear q
        refine zV_blk (pc' := 25) (lo' := [(0, .int x0), (1, .int x1)]) (st' := [.int 20000, .int (x1 - x0)]) [.iload_n 1, .iload_n 0, .isub, .sipush 20000] (by decide +kernel) rfl ?_
        refine zV_icmp_gt (tgt := 32) (off := 7) (by decide +kernel) (by decide) (fun q => ?_) (fun q => ?_)
        · replace h := zif_pos q h
          clear q
          refine zV_blk (pc' := 33) (lo' := [(0, .int x0), (1, .int x1)]) (st' := [.int 0]) [.iconst 0] (by decide +kernel) rfl ?_
          obtain rfl := Option.some.inj h
          refine zV_eq (st2 := [.int (zb false)]) rfl rfl rfl rfl ?_
          exact zV_bret rfl (by decide +kernel) (hQ _ rfl)
        · replace h := zif_neg q h
          clear q
          refine zV_blk (pc' := 29) (lo' := [(0, .int x0), (1, .int x1)]) (st' := [.int 1]) [.iconst 1] (by decide +kernel) rfl ?_
          refine zV_goto (tgt := 33) (off := 4) (by decide +kernel) (by decide) ?_
          obtain rfl := Option.some.inj h
          refine zV_eq (st2 := [.int (zb true)]) rfl rfl rfl rfl ?_
          exact zV_bret rfl (by decide +kernel) (hQ _ rfl)

def k_isStretch (x0 : Int32) (x1 : Int32) : Option (Bool) := (k_isYear x0).bind (fun v1 => (if v1 = true then (if (x1 : Int32) < (1 : Int32) then some false else (if (5000 : Int32) < (x1 : Int32) then some false else (if (100000 : Int32) < (((x0 + x1) - 1) : Int32) then some false else some true))) else some false))
theorem oX11_isStretch : zO yX11_isStretch cX11_isStretch 2 (some .boolean) 2 := ⟨zT_mem 1235 (by decide +kernel) rfl, zT_mem 89 (by decide +kernel) rfl, by decide +kernel, by decide +kernel, by decide +kernel⟩
set_option maxHeartbeats 4000000 in
set_option maxRecDepth 100000 in
theorem ck_isStretch (s0 : State) (D : va_G) (cB cI cJ cD : ClassId) (x0 : Int32) (x1 : Int32) (x : Bool) (h : k_isStretch x0 x1 = some x) {hi hm : zHp} {nx : Nat} {Q : Option Value → zHp → zHp → Nat → Prop} (hQ0 : Q (some (.int (zb x))) hi hm nx) : zM s0 D (zty cB cI cJ cD) yX11_isStretch cX11_isStretch 2 (some .boolean) 1 20 0 0 [.int x0, .int x1] hi hm nx Q := by
  have hQ : ∀ r : Bool, x = r → Q (some (.int (zb r))) hi hm nx := fun r hr => by subst hr; exact hQ0
  clear hQ0
  refine zM_of (by decide +kernel) (Nat.le_of_ble_eq_true rfl) ?_
  unfold k_isStretch at h
  refine zV_eq (lo2 := [(0, .int x0), (1, .int x1)]) rfl rfl rfl rfl ?_
  refine zV_blk (pc' := 1) (lo' := [(0, .int x0), (1, .int x1)]) (st' := [.int x0]) [.iload_n 0] (by decide +kernel) rfl ?_
  obtain ⟨v1, hv1, h⟩ := zbind h
  refine zV_roS (idx := 220) (rest := []) (fun Q2 hQ2 => ck_isYear s0 D cB cI cJ cD x0  v1 hv1  hQ2) oX11_isYear (zT_mem 1009 (by decide +kernel) rfl) (zT_mem 1010 (by decide +kernel) rfl) rfl rfl (Nat.le_of_ble_eq_true rfl) ⟨by decide, by decide⟩ (by decide +kernel) ?_
  refine zV_eq (st2 := [.int (zb v1)]) rfl rfl rfl rfl ?_
  refine zV_bif_eq (tgt := 34) (off := 30) (by decide +kernel) (by decide) (fun q => ?_) (fun q => ?_)
  · replace h := zif_neg q h
    clear q
    refine zV_blk (pc' := 35) (lo' := [(0, .int x0), (1, .int x1)]) (st' := [.int 0]) [.iconst 0] (by decide +kernel) rfl ?_
    obtain rfl := Option.some.inj h
    refine zV_eq (st2 := [.int (zb false)]) rfl rfl rfl rfl ?_
    exact zV_bret rfl (by decide +kernel) (hQ _ rfl)
  · replace h := zif_pos q h
    clear q
    refine zV_blk (pc' := 9) (lo' := [(0, .int x0), (1, .int x1)]) (st' := [.int 1, .int x1]) [.iload_n 1, .iconst 1] (by decide +kernel) rfl ?_
    refine zV_icmp_lt (tgt := 34) (off := 25) (by decide +kernel) (by decide) (fun q => ?_) (fun q => ?_)
    · replace h := zif_pos q h
      clear q
      refine zV_blk (pc' := 35) (lo' := [(0, .int x0), (1, .int x1)]) (st' := [.int 0]) [.iconst 0] (by decide +kernel) rfl ?_
      obtain rfl := Option.some.inj h
      refine zV_eq (st2 := [.int (zb false)]) rfl rfl rfl rfl ?_
      exact zV_bret rfl (by decide +kernel) (hQ _ rfl)
    · replace h := zif_neg q h
      clear q
      refine zV_blk (pc' := 16) (lo' := [(0, .int x0), (1, .int x1)]) (st' := [.int 5000, .int x1]) [.iload_n 1, .sipush 5000] (by decide +kernel) rfl ?_
      refine zV_icmp_gt (tgt := 34) (off := 18) (by decide +kernel) (by decide) (fun q => ?_) (fun q => ?_)
      · replace h := zif_pos q h
        clear q
        refine zV_blk (pc' := 35) (lo' := [(0, .int x0), (1, .int x1)]) (st' := [.int 0]) [.iconst 0] (by decide +kernel) rfl ?_
        obtain rfl := Option.some.inj h
        refine zV_eq (st2 := [.int (zb false)]) rfl rfl rfl rfl ?_
        exact zV_bret rfl (by decide +kernel) (hQ _ rfl)
      · replace h := zif_neg q h
        clear q
        refine zV_blk (pc' := 24) (lo' := [(0, .int x0), (1, .int x1)]) (st' := [.int ((x0 + x1) - 1)]) [.iload_n 0, .iload_n 1, .iadd, .iconst 1, .isub] (by decide +kernel) rfl ?_
        refine zV_ldcw (idx := 341) (v := 100000) (zT_mem 1013 (by decide +kernel) rfl) (by decide +kernel) ?_
        refine zV_icmp_gt (tgt := 34) (off := 7) (by decide +kernel) (by decide) (fun q => ?_) (fun q => ?_)
        · replace h := zif_pos q h
          clear q
          refine zV_blk (pc' := 35) (lo' := [(0, .int x0), (1, .int x1)]) (st' := [.int 0]) [.iconst 0] (by decide +kernel) rfl ?_
          obtain rfl := Option.some.inj h
          refine zV_eq (st2 := [.int (zb false)]) rfl rfl rfl rfl ?_
          exact zV_bret rfl (by decide +kernel) (hQ _ rfl)
        · replace h := zif_neg q h
          clear q
          refine zV_blk (pc' := 31) (lo' := [(0, .int x0), (1, .int x1)]) (st' := [.int 1]) [.iconst 1] (by decide +kernel) rfl ?_
          refine zV_goto (tgt := 35) (off := 4) (by decide +kernel) (by decide) ?_
          obtain rfl := Option.some.inj h
          refine zV_eq (st2 := [.int (zb true)]) rfl rfl rfl rfl ?_
          exact zV_bret rfl (by decide +kernel) (hQ _ rfl)

def k_isMoon_29 (x0 : Int32) (x1 : Int32) (t0 : Int32) : Option (Bool) := (if (t0 : Int32) = (0 : Int32) then some false else (if (x0 : Int32) < ((2 * x1) : Int32) then some false else (if ((1000 * x1) : Int32) < (x0 : Int32) then some false else some true)))
set_option maxHeartbeats 4000000 in
set_option maxRecDepth 100000 in
theorem ck_isMoon_29 (s0 : State) (D : va_G) (cB cI cJ cD : ClassId) (x0 : Int32) (x1 : Int32) (t0 : Int32) {x : Bool} {hi hm : zHp} {nx : Nat} {Q : Option Value → zHp → zHp → Nat → Prop} (h : k_isMoon_29 x0 x1 t0 = some x) (hQ : ∀ r : Bool, x = r → Q (some (.int (zb r))) hi hm nx) : zV s0 D (zty cB cI cJ cD) yX11_isMoon cX11_isMoon 3 (some .boolean) 0 0 0 0 29 [(0, .int x0), (1, .int x1)] [.int t0] hi hm nx Q := by
  unfold k_isMoon_29 at h
  refine zV_blk (pc' := 31) (lo' := [(2, .int t0), (0, .int x0), (1, .int x1)]) (st' := [.int t0]) [.istore_n 2, .iload_n 2] (by decide +kernel) rfl ?_
  refine zV_if_eq (tgt := 54) (off := 23) (by decide +kernel) (by decide) (fun q => ?_) (fun q => ?_)
  · replace h := zif_pos q h
    clear q
    refine zV_blk (pc' := 55) (lo' := [(2, .int t0), (0, .int x0), (1, .int x1)]) (st' := [.int 0]) [.iconst 0] (by decide +kernel) rfl ?_
    obtain rfl := Option.some.inj h
    refine zV_eq (st2 := [.int (zb false)]) rfl rfl rfl rfl ?_
    exact zV_bret rfl (by decide +kernel) (hQ _ rfl)
  · replace h := zif_neg q h
    clear q
    refine zV_blk (pc' := 38) (lo' := [(2, .int t0), (0, .int x0), (1, .int x1)]) (st' := [.int (2 * x1), .int x0]) [.iload_n 0, .iconst 2, .iload_n 1, .imul] (by decide +kernel) rfl ?_
    refine zV_icmp_lt (tgt := 54) (off := 16) (by decide +kernel) (by decide) (fun q => ?_) (fun q => ?_)
    · replace h := zif_pos q h
      clear q
      refine zV_blk (pc' := 55) (lo' := [(2, .int t0), (0, .int x0), (1, .int x1)]) (st' := [.int 0]) [.iconst 0] (by decide +kernel) rfl ?_
      obtain rfl := Option.some.inj h
      refine zV_eq (st2 := [.int (zb false)]) rfl rfl rfl rfl ?_
      exact zV_bret rfl (by decide +kernel) (hQ _ rfl)
    · replace h := zif_neg q h
      clear q
      refine zV_blk (pc' := 47) (lo' := [(2, .int t0), (0, .int x0), (1, .int x1)]) (st' := [.int (1000 * x1), .int x0]) [.iload_n 0, .sipush 1000, .iload_n 1, .imul] (by decide +kernel) rfl ?_
      refine zV_icmp_gt (tgt := 54) (off := 7) (by decide +kernel) (by decide) (fun q => ?_) (fun q => ?_)
      · replace h := zif_pos q h
        clear q
        refine zV_blk (pc' := 55) (lo' := [(2, .int t0), (0, .int x0), (1, .int x1)]) (st' := [.int 0]) [.iconst 0] (by decide +kernel) rfl ?_
        obtain rfl := Option.some.inj h
        refine zV_eq (st2 := [.int (zb false)]) rfl rfl rfl rfl ?_
        exact zV_bret rfl (by decide +kernel) (hQ _ rfl)
      · replace h := zif_neg q h
        clear q
        refine zV_blk (pc' := 51) (lo' := [(2, .int t0), (0, .int x0), (1, .int x1)]) (st' := [.int 1]) [.iconst 1] (by decide +kernel) rfl ?_
        refine zV_goto (tgt := 55) (off := 4) (by decide +kernel) (by decide) ?_
        obtain rfl := Option.some.inj h
        refine zV_eq (st2 := [.int (zb true)]) rfl rfl rfl rfl ?_
        exact zV_bret rfl (by decide +kernel) (hQ _ rfl)
def k_isMoon_28 (x0 : Int32) (x1 : Int32) : Option (Bool) := (k_isMoon_29 x0 x1 0)
set_option maxHeartbeats 4000000 in
set_option maxRecDepth 100000 in
theorem ck_isMoon_28 (s0 : State) (D : va_G) (cB cI cJ cD : ClassId) (x0 : Int32) (x1 : Int32) {x : Bool} {hi hm : zHp} {nx : Nat} {Q : Option Value → zHp → zHp → Nat → Prop} (h : k_isMoon_28 x0 x1 = some x) (hQ : ∀ r : Bool, x = r → Q (some (.int (zb r))) hi hm nx) : zV s0 D (zty cB cI cJ cD) yX11_isMoon cX11_isMoon 3 (some .boolean) 0 0 0 0 28 [(0, .int x0), (1, .int x1)] [] hi hm nx Q := by
  unfold k_isMoon_28 at h
  refine zV_blk (pc' := 29) (lo' := [(0, .int x0), (1, .int x1)]) (st' := [.int 0]) [.iconst 0] (by decide +kernel) rfl ?_
  refine zV_pick (lo2 := [(0, .int x0), (1, .int x1)]) [0, 1] rfl ?_
  exact ck_isMoon_29 s0 D cB cI cJ cD x0 x1 0   h hQ
def k_isMoon (x0 : Int32) (x1 : Int32) : Option (Bool) := (if (x0 : Int32) < (1 : Int32) then (k_isMoon_28 x0 x1 ) else (if (10000000 : Int32) < (x0 : Int32) then (k_isMoon_28 x0 x1 ) else (if (x1 : Int32) < (1 : Int32) then (k_isMoon_28 x0 x1 ) else (if (100000 : Int32) < (x1 : Int32) then (k_isMoon_28 x0 x1 ) else (k_isMoon_29 x0 x1 1)))))
theorem oX11_isMoon : zO yX11_isMoon cX11_isMoon 3 (some .boolean) 2 := ⟨zT_mem 1277 (by decide +kernel) rfl, zT_mem 89 (by decide +kernel) rfl, by decide +kernel, by decide +kernel, by decide +kernel⟩
set_option maxHeartbeats 4000000 in
set_option maxRecDepth 100000 in
theorem ck_isMoon (s0 : State) (D : va_G) (cB cI cJ cD : ClassId) (x0 : Int32) (x1 : Int32) (x : Bool) (h : k_isMoon x0 x1 = some x) {hi hm : zHp} {nx : Nat} {Q : Option Value → zHp → zHp → Nat → Prop} (hQ0 : Q (some (.int (zb x))) hi hm nx) : zM s0 D (zty cB cI cJ cD) yX11_isMoon cX11_isMoon 3 (some .boolean) 0 0 0 0 [.int x0, .int x1] hi hm nx Q := by
  have hQ : ∀ r : Bool, x = r → Q (some (.int (zb r))) hi hm nx := fun r hr => by subst hr; exact hQ0
  clear hQ0
  refine zM_of (by decide +kernel) (Nat.le_of_ble_eq_true rfl) ?_
  unfold k_isMoon at h
  refine zV_eq (lo2 := [(0, .int x0), (1, .int x1)]) rfl rfl rfl rfl ?_
  refine zV_blk (pc' := 2) (lo' := [(0, .int x0), (1, .int x1)]) (st' := [.int 1, .int x0]) [.iload_n 0, .iconst 1] (by decide +kernel) rfl ?_
  refine zV_icmp_lt (tgt := 28) (off := 26) (by decide +kernel) (by decide) (fun q => ?_) (fun q => ?_)
  · replace h := zif_pos q h
    clear q
    refine zV_pick (lo2 := [(0, .int x0), (1, .int x1)]) [0, 1] rfl ?_
    exact ck_isMoon_28 s0 D cB cI cJ cD x0 x1    h hQ
  · replace h := zif_neg q h
    clear q
    refine zV_blk (pc' := 6) (lo' := [(0, .int x0), (1, .int x1)]) (st' := [.int x0]) [.iload_n 0] (by decide +kernel) rfl ?_
    refine zV_ldcw (idx := 434) (v := 10000000) (zT_mem 1278 (by decide +kernel) rfl) (by decide +kernel) ?_
    refine zV_icmp_gt (tgt := 28) (off := 19) (by decide +kernel) (by decide) (fun q => ?_) (fun q => ?_)
    · replace h := zif_pos q h
      clear q
      refine zV_pick (lo2 := [(0, .int x0), (1, .int x1)]) [0, 1] rfl ?_
      exact ck_isMoon_28 s0 D cB cI cJ cD x0 x1    h hQ
    · replace h := zif_neg q h
      clear q
      refine zV_blk (pc' := 14) (lo' := [(0, .int x0), (1, .int x1)]) (st' := [.int 1, .int x1]) [.iload_n 1, .iconst 1] (by decide +kernel) rfl ?_
      refine zV_icmp_lt (tgt := 28) (off := 14) (by decide +kernel) (by decide) (fun q => ?_) (fun q => ?_)
      · replace h := zif_pos q h
        clear q
        refine zV_pick (lo2 := [(0, .int x0), (1, .int x1)]) [0, 1] rfl ?_
        exact ck_isMoon_28 s0 D cB cI cJ cD x0 x1    h hQ
      · replace h := zif_neg q h
        clear q
        refine zV_blk (pc' := 18) (lo' := [(0, .int x0), (1, .int x1)]) (st' := [.int x1]) [.iload_n 1] (by decide +kernel) rfl ?_
        refine zV_ldcw (idx := 341) (v := 100000) (zT_mem 1013 (by decide +kernel) rfl) (by decide +kernel) ?_
        refine zV_icmp_gt (tgt := 28) (off := 7) (by decide +kernel) (by decide) (fun q => ?_) (fun q => ?_)
        · replace h := zif_pos q h
          clear q
          refine zV_pick (lo2 := [(0, .int x0), (1, .int x1)]) [0, 1] rfl ?_
          exact ck_isMoon_28 s0 D cB cI cJ cD x0 x1    h hQ
        · replace h := zif_neg q h
          clear q
          refine zV_blk (pc' := 25) (lo' := [(0, .int x0), (1, .int x1)]) (st' := [.int 1]) [.iconst 1] (by decide +kernel) rfl ?_
          refine zV_goto (tgt := 29) (off := 4) (by decide +kernel) (by decide) ?_
          refine zV_pick (lo2 := [(0, .int x0), (1, .int x1)]) [0, 1] rfl ?_
          exact ck_isMoon_29 s0 D cB cI cJ cD x0 x1 1   h hQ

def k_isShare (x0 : Int32) (x1 : Int32) : Option (Bool) := (if (x1 : Int32) < (1 : Int32) then some false else (if (1000000 : Int32) < (x1 : Int32) then some false else (if (x0 : Int32) < (0 : Int32) then some false else (if (x1 : Int32) < (x0 : Int32) then some false else some true))))
theorem oX11_isShare : zO yX11_isShare cX11_isShare 2 (some .boolean) 2 := ⟨zT_mem 1401 (by decide +kernel) rfl, zT_mem 89 (by decide +kernel) rfl, by decide +kernel, by decide +kernel, by decide +kernel⟩
set_option maxHeartbeats 4000000 in
set_option maxRecDepth 100000 in
theorem ck_isShare (s0 : State) (D : va_G) (cB cI cJ cD : ClassId) (x0 : Int32) (x1 : Int32) (x : Bool) (h : k_isShare x0 x1 = some x) {hi hm : zHp} {nx : Nat} {Q : Option Value → zHp → zHp → Nat → Prop} (hQ0 : Q (some (.int (zb x))) hi hm nx) : zM s0 D (zty cB cI cJ cD) yX11_isShare cX11_isShare 2 (some .boolean) 0 0 0 0 [.int x0, .int x1] hi hm nx Q := by
  have hQ : ∀ r : Bool, x = r → Q (some (.int (zb r))) hi hm nx := fun r hr => by subst hr; exact hQ0
  clear hQ0
  refine zM_of (by decide +kernel) (Nat.le_of_ble_eq_true rfl) ?_
  unfold k_isShare at h
  refine zV_eq (lo2 := [(0, .int x0), (1, .int x1)]) rfl rfl rfl rfl ?_
  refine zV_blk (pc' := 2) (lo' := [(0, .int x0), (1, .int x1)]) (st' := [.int 1, .int x1]) [.iload_n 1, .iconst 1] (by decide +kernel) rfl ?_
  refine zV_icmp_lt (tgt := 24) (off := 22) (by decide +kernel) (by decide) (fun q => ?_) (fun q => ?_)
  · replace h := zif_pos q h
    clear q
    refine zV_blk (pc' := 25) (lo' := [(0, .int x0), (1, .int x1)]) (st' := [.int 0]) [.iconst 0] (by decide +kernel) rfl ?_
    obtain rfl := Option.some.inj h
    refine zV_eq (st2 := [.int (zb false)]) rfl rfl rfl rfl ?_
    exact zV_bret rfl (by decide +kernel) (hQ _ rfl)
  · replace h := zif_neg q h
    clear q
    refine zV_blk (pc' := 6) (lo' := [(0, .int x0), (1, .int x1)]) (st' := [.int x1]) [.iload_n 1] (by decide +kernel) rfl ?_
    refine zV_ldc (idx := 192) (v := 1000000) (zT_mem 752 (by decide +kernel) rfl) (by decide +kernel) ?_
    refine zV_icmp_gt (tgt := 24) (off := 16) (by decide +kernel) (by decide) (fun q => ?_) (fun q => ?_)
    · replace h := zif_pos q h
      clear q
      refine zV_blk (pc' := 25) (lo' := [(0, .int x0), (1, .int x1)]) (st' := [.int 0]) [.iconst 0] (by decide +kernel) rfl ?_
      obtain rfl := Option.some.inj h
      refine zV_eq (st2 := [.int (zb false)]) rfl rfl rfl rfl ?_
      exact zV_bret rfl (by decide +kernel) (hQ _ rfl)
    · replace h := zif_neg q h
      clear q
      refine zV_blk (pc' := 12) (lo' := [(0, .int x0), (1, .int x1)]) (st' := [.int x0]) [.iload_n 0] (by decide +kernel) rfl ?_
      refine zV_if_lt (tgt := 24) (off := 12) (by decide +kernel) (by decide) (fun q => ?_) (fun q => ?_)
      · replace h := zif_pos q h
        clear q
        refine zV_blk (pc' := 25) (lo' := [(0, .int x0), (1, .int x1)]) (st' := [.int 0]) [.iconst 0] (by decide +kernel) rfl ?_
        obtain rfl := Option.some.inj h
        refine zV_eq (st2 := [.int (zb false)]) rfl rfl rfl rfl ?_
        exact zV_bret rfl (by decide +kernel) (hQ _ rfl)
      · replace h := zif_neg q h
        clear q
        refine zV_blk (pc' := 17) (lo' := [(0, .int x0), (1, .int x1)]) (st' := [.int x1, .int x0]) [.iload_n 0, .iload_n 1] (by decide +kernel) rfl ?_
        refine zV_icmp_gt (tgt := 24) (off := 7) (by decide +kernel) (by decide) (fun q => ?_) (fun q => ?_)
        · replace h := zif_pos q h
          clear q
          refine zV_blk (pc' := 25) (lo' := [(0, .int x0), (1, .int x1)]) (st' := [.int 0]) [.iconst 0] (by decide +kernel) rfl ?_
          obtain rfl := Option.some.inj h
          refine zV_eq (st2 := [.int (zb false)]) rfl rfl rfl rfl ?_
          exact zV_bret rfl (by decide +kernel) (hQ _ rfl)
        · replace h := zif_neg q h
          clear q
          refine zV_blk (pc' := 21) (lo' := [(0, .int x0), (1, .int x1)]) (st' := [.int 1]) [.iconst 1] (by decide +kernel) rfl ?_
          refine zV_goto (tgt := 25) (off := 4) (by decide +kernel) (by decide) ?_
          obtain rfl := Option.some.inj h
          refine zV_eq (st2 := [.int (zb true)]) rfl rfl rfl rfl ?_
          exact zV_bret rfl (by decide +kernel) (hQ _ rfl)

def k_moonFrom (x0 : Int64) (x2 : Int32) (x3 : Int32) : Option (Int64) := (j_fdivL ((-x0) * (x3 : Int32).toInt64) (x2 : Int32).toInt64).bind (fun v1 => some (-v1))
theorem oX11_moonFrom : zO yX11_moonFrom cX11_moonFrom 4 (some .long) 3 := ⟨zT_mem 1281 (by decide +kernel) rfl, zT_mem 89 (by decide +kernel) rfl, by decide +kernel, by decide +kernel, by decide +kernel⟩
set_option maxHeartbeats 4000000 in
set_option maxRecDepth 100000 in
theorem ck_moonFrom (s0 : State) (D : va_G) (cB cI cJ cD : ClassId) (x0 : Int64) (x2 : Int32) (x3 : Int32) (x : Int64) (h : k_moonFrom x0 x2 x3 = some x) {hi hm : zHp} {nx : Nat} {Q : Option Value → zHp → zHp → Nat → Prop} (hQ0 : Q (some (.long x)) hi hm nx) : zM s0 D (zty cB cI cJ cD) yX11_moonFrom cX11_moonFrom 4 (some .long) 1 25 0 0 [.long x0, .int x2, .int x3] hi hm nx Q := by
  have hQ : ∀ r : Int64, x = r → Q (some (.long r)) hi hm nx := fun r hr => by subst hr; exact hQ0
  clear hQ0
  refine zM_of (by decide +kernel) (Nat.le_of_ble_eq_true rfl) ?_
  unfold k_moonFrom at h
  refine zV_eq (lo2 := [(0, .long x0), (2, .int x2), (3, .int x3)]) rfl rfl rfl rfl ?_
  refine zV_blk (pc' := 7) (lo' := [(0, .long x0), (2, .int x2), (3, .int x3)]) (st' := [.long (x2 : Int32).toInt64, .long ((-x0) * (x3 : Int32).toInt64)]) [.lload_n 0, .lneg, .iload_n 3, .i2l, .lmul, .iload_n 2, .i2l] (by decide +kernel) rfl ?_
  obtain ⟨v1, hv1, h⟩ := zbind h
  refine zV_roS (idx := 354) (rest := []) (fun Q2 hQ2 => cj_fdivL s0 D cB cI cJ cD ((-x0) * (x3 : Int32).toInt64) (x2 : Int32).toInt64  v1 hv1  hQ2) oJ9_floorDiv_f86c9 (zT_mem 1282 (by decide +kernel) rfl) (zT_mem 1198 (by decide +kernel) rfl) rfl rfl (Nat.le_of_ble_eq_true rfl) ⟨by decide, by decide⟩ (by decide +kernel) ?_
  refine zV_eq (st2 := [.long v1]) rfl rfl rfl rfl ?_
  refine zV_blk (pc' := 11) (lo' := [(0, .long x0), (2, .int x2), (3, .int x3)]) (st' := [.long (-v1)]) [.lneg] (by decide +kernel) rfl ?_
  obtain rfl := Option.some.inj h
  exact zV_lret rfl (by decide +kernel) (hQ _ rfl)

def k_moonDay (x0 : Int64) (x2 : Int32) (x3 : Int32) : Option (Int64) := (j_fdivL (x0 * (x2 : Int32).toInt64) (x3 : Int32).toInt64).bind (fun v1 => some v1)
theorem oX11_moonDay : zO yX11_moonDay cX11_moonDay 4 (some .long) 3 := ⟨zT_mem 1286 (by decide +kernel) rfl, zT_mem 89 (by decide +kernel) rfl, by decide +kernel, by decide +kernel, by decide +kernel⟩
set_option maxHeartbeats 4000000 in
set_option maxRecDepth 100000 in
theorem ck_moonDay (s0 : State) (D : va_G) (cB cI cJ cD : ClassId) (x0 : Int64) (x2 : Int32) (x3 : Int32) (x : Int64) (h : k_moonDay x0 x2 x3 = some x) {hi hm : zHp} {nx : Nat} {Q : Option Value → zHp → zHp → Nat → Prop} (hQ0 : Q (some (.long x)) hi hm nx) : zM s0 D (zty cB cI cJ cD) yX11_moonDay cX11_moonDay 4 (some .long) 1 25 0 0 [.long x0, .int x2, .int x3] hi hm nx Q := by
  have hQ : ∀ r : Int64, x = r → Q (some (.long r)) hi hm nx := fun r hr => by subst hr; exact hQ0
  clear hQ0
  refine zM_of (by decide +kernel) (Nat.le_of_ble_eq_true rfl) ?_
  unfold k_moonDay at h
  refine zV_eq (lo2 := [(0, .long x0), (2, .int x2), (3, .int x3)]) rfl rfl rfl rfl ?_
  refine zV_blk (pc' := 6) (lo' := [(0, .long x0), (2, .int x2), (3, .int x3)]) (st' := [.long (x3 : Int32).toInt64, .long (x0 * (x2 : Int32).toInt64)]) [.lload_n 0, .iload_n 2, .i2l, .lmul, .iload_n 3, .i2l] (by decide +kernel) rfl ?_
  obtain ⟨v1, hv1, h⟩ := zbind h
  refine zV_roS (idx := 354) (rest := []) (fun Q2 hQ2 => cj_fdivL s0 D cB cI cJ cD (x0 * (x2 : Int32).toInt64) (x3 : Int32).toInt64  v1 hv1  hQ2) oJ9_floorDiv_f86c9 (zT_mem 1282 (by decide +kernel) rfl) (zT_mem 1198 (by decide +kernel) rfl) rfl rfl (Nat.le_of_ble_eq_true rfl) ⟨by decide, by decide⟩ (by decide +kernel) ?_
  refine zV_eq (st2 := [.long v1]) rfl rfl rfl rfl ?_
  obtain rfl := Option.some.inj h
  exact zV_lret rfl (by decide +kernel) (hQ _ rfl)

def k_nearestK_42 (x4 : Int32) (t0 : Int64) : Option (Int64) := (j_minL (x4 : Int32).toInt64 t0).bind (fun v1 => (j_maxL 0 v1).bind (fun v2 => some v2))
set_option maxHeartbeats 4000000 in
set_option maxRecDepth 100000 in
theorem ck_nearestK_42 (s0 : State) (D : va_G) (cB cI cJ cD : ClassId) (x4 : Int32) (t0 : Int64) {x : Int64} {hi hm : zHp} {nx : Nat} {Q : Option Value → zHp → zHp → Nat → Prop} (h : k_nearestK_42 x4 t0 = some x) (hQ : ∀ r : Int64, x = r → Q (some (.long r)) hi hm nx) : zV s0 D (zty cB cI cJ cD) yX11_nearestK cX11_nearestK 9 (some .long) 1 25 0 0 42 [(4, .int x4)] [.long t0] hi hm nx Q := by
  unfold k_nearestK_42 at h
  refine zV_blk (pc' := 50) (lo' := [(7, .long t0), (4, .int x4)]) (st' := [.long t0, .long (x4 : Int32).toInt64, .long 0]) [.lstore 7, .lconst 0, .iload 4, .i2l, .lload 7] (by decide +kernel) rfl ?_
  obtain ⟨v1, hv1, h⟩ := zbind h
  refine zV_roS (idx := 292) (rest := [.long 0]) (fun Q2 hQ2 => cj_minL s0 D cB cI cJ cD (x4 : Int32).toInt64 t0  v1 hv1  hQ2) oJ9_min_f86c9 (zT_mem 1178 (by decide +kernel) rfl) (zT_mem 1179 (by decide +kernel) rfl) rfl rfl (Nat.le_of_ble_eq_true rfl) ⟨by decide, by decide⟩ (by decide +kernel) ?_
  refine zV_eq (st2 := [.long v1, .long 0]) rfl rfl rfl rfl ?_
  obtain ⟨v2, hv2, h⟩ := zbind h
  refine zV_roS (idx := 289) (rest := []) (fun Q2 hQ2 => cj_maxL s0 D cB cI cJ cD 0 v1  v2 hv2  hQ2) oJ9_max_f86c9 (zT_mem 1177 (by decide +kernel) rfl) (zT_mem 696 (by decide +kernel) rfl) rfl rfl (Nat.le_of_ble_eq_true rfl) ⟨by decide, by decide⟩ (by decide +kernel) ?_
  refine zV_eq (st2 := [.long v2]) rfl rfl rfl rfl ?_
  obtain rfl := Option.some.inj h
  exact zV_lret rfl (by decide +kernel) (hQ _ rfl)
def k_nearestK (x0 : Int64) (x2 : Int64) (x4 : Int32) : Option (Int64) := (if (1 : Int64) ≤ (x2 : Int64) then (j_fdivL x0 x2).bind (fun v1 => (if ((((v1 + 1) * x2) - x0) : Int64) < ((x0 - (v1 * x2)) : Int64) then (k_nearestK_42 x4 (v1 + 1)) else (k_nearestK_42 x4 v1))) else some 0)
theorem oX11_nearestK : zO yX11_nearestK cX11_nearestK 9 (some .long) 3 := ⟨zT_mem 1378 (by decide +kernel) rfl, zT_mem 89 (by decide +kernel) rfl, by decide +kernel, by decide +kernel, by decide +kernel⟩
set_option maxHeartbeats 4000000 in
set_option maxRecDepth 100000 in
theorem ck_nearestK (s0 : State) (D : va_G) (cB cI cJ cD : ClassId) (x0 : Int64) (x2 : Int64) (x4 : Int32) (x : Int64) (h : k_nearestK x0 x2 x4 = some x) {hi hm : zHp} {nx : Nat} {Q : Option Value → zHp → zHp → Nat → Prop} (hQ0 : Q (some (.long x)) hi hm nx) : zM s0 D (zty cB cI cJ cD) yX11_nearestK cX11_nearestK 9 (some .long) 1 25 0 0 [.long x0, .long x2, .int x4] hi hm nx Q := by
  have hQ : ∀ r : Int64, x = r → Q (some (.long r)) hi hm nx := fun r hr => by subst hr; exact hQ0
  clear hQ0
  refine zM_of (by decide +kernel) (Nat.le_of_ble_eq_true rfl) ?_
  unfold k_nearestK at h
  refine zV_eq (lo2 := [(0, .long x0), (2, .long x2), (4, .int x4)]) rfl rfl rfl rfl ?_
  refine zV_blk (pc' := 3) (lo' := [(0, .long x0), (2, .long x2), (4, .int x4)]) (st' := [.int (lg_cmp x2 1)]) [.lload_n 2, .lconst 1, .lcmp] (by decide +kernel) rfl ?_
  refine zV_lcmp_ge (tgt := 8) (off := 5) (by decide +kernel) (by decide) (fun q => ?_) (fun q => ?_)
  · replace h := zif_pos q h
    clear q
    refine zV_blk (pc' := 10) (lo' := [(0, .long x0), (2, .long x2), (4, .int x4)]) (st' := [.long x2, .long x0]) [.lload_n 0, .lload_n 2] (by decide +kernel) rfl ?_
    obtain ⟨v1, hv1, h⟩ := zbind h
    refine zV_roS (idx := 354) (rest := []) (fun Q2 hQ2 => cj_fdivL s0 D cB cI cJ cD x0 x2  v1 hv1  hQ2) oJ9_floorDiv_f86c9 (zT_mem 1282 (by decide +kernel) rfl) (zT_mem 1198 (by decide +kernel) rfl) rfl rfl (Nat.le_of_ble_eq_true rfl) ⟨by decide, by decide⟩ (by decide +kernel) ?_
    refine zV_eq (st2 := [.long v1]) rfl rfl rfl rfl ?_
    refine zV_blk (pc' := 30) (lo' := [(5, .long v1), (0, .long x0), (2, .long x2), (4, .int x4)]) (st' := [.int (lg_cmp (x0 - (v1 * x2)) (((v1 + 1) * x2) - x0))]) [.lstore 5, .lload_n 0, .lload 5, .lload_n 2, .lmul, .lsub, .lload 5, .lconst 1, .ladd, .lload_n 2, .lmul, .lload_n 0, .lsub, .lcmp] (by decide +kernel) rfl ?_
    refine zV_lcmp_gt (tgt := 38) (off := 8) (by decide +kernel) (by decide) (fun q => ?_) (fun q => ?_)
    · replace h := zif_pos q h
      clear q
      refine zV_blk (pc' := 42) (lo' := [(5, .long v1), (0, .long x0), (2, .long x2), (4, .int x4)]) (st' := [.long (v1 + 1)]) [.lload 5, .lconst 1, .ladd] (by decide +kernel) rfl ?_
      refine zV_pick (lo2 := [(4, .int x4)]) [3] rfl ?_
      exact ck_nearestK_42 s0 D cB cI cJ cD x4 (v1 + 1)   h hQ
    · replace h := zif_neg q h
      clear q
      refine zV_blk (pc' := 35) (lo' := [(5, .long v1), (0, .long x0), (2, .long x2), (4, .int x4)]) (st' := [.long v1]) [.lload 5] (by decide +kernel) rfl ?_
      refine zV_goto (tgt := 42) (off := 7) (by decide +kernel) (by decide) ?_
      refine zV_pick (lo2 := [(4, .int x4)]) [3] rfl ?_
      exact ck_nearestK_42 s0 D cB cI cJ cD x4 v1   h hQ
  · replace h := zif_neg q h
    clear q
    refine zV_blk (pc' := 7) (lo' := [(0, .long x0), (2, .long x2), (4, .int x4)]) (st' := [.long 0]) [.lconst 0] (by decide +kernel) rfl ?_
    obtain rfl := Option.some.inj h
    exact zV_lret rfl (by decide +kernel) (hQ _ rfl)

