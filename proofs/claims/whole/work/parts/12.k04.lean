def k_leapsBefore_Ladder_55 (n : Nat) (x0 : vArr) (x1 : Int32) (x3 : Int32) (t0 : Int32) (t1 : Int32) : Option ((Int32 × Int32) ⊕ (Int32)) := some (.inl ((t0 + t1), (x3 + 1)))
set_option maxHeartbeats 4000000 in
set_option maxRecDepth 100000 in
theorem ck_leapsBefore_Ladder_55 (s0 : State) (D : va_G) (cB cI cJ cD : ClassId) (n : Nat) (x0 : vArr) (x1 : Int32) (x3 : Int32) (t0 : Int32) (t1 : Int32) (a0 : Nat) {x : (Int32 × Int32) ⊕ (Int32)} {hi hm : zHp} {nx : Nat} {Q : Option Value → zHp → zHp → Nat → Prop} (ho0 : iLadder cI hi a0 x0) (h : k_leapsBefore_Ladder_55 n x0 x1 x3 t0 t1 = some x) (hL4 : ∀ s : Int32 × Int32, x = (.inl s) → zV s0 D (zty cB cI cJ cD) yX5_leapsBefore cX5_leapsBefore 5 (some .int) 1 22 0 0 4 [(0, .ref a0), (1, .int x1), (2, .int s.1), (3, .int s.2)] [] hi hm nx Q) (hQ : ∀ r : Int32, x = (.inr r) → Q (some (.int r)) hi hm nx) : zV s0 D (zty cB cI cJ cD) yX5_leapsBefore cX5_leapsBefore 5 (some .int) 1 22 0 0 55 [(0, .ref a0), (1, .int x1), (3, .int x3)] [.int t1, .int t0] hi hm nx Q := by
  unfold k_leapsBefore_Ladder_55 at h
  refine zV_blk (pc' := 60) (lo' := [(3, .int (x3 + 1)), (2, .int (t0 + t1)), (0, .ref a0), (1, .int x1)]) (st' := []) [.iadd, .istore_n 2, .iinc 3 1] (by decide +kernel) rfl ?_
  refine zV_goto (tgt := 4) (off := -56) (by decide +kernel) (by decide) ?_
  obtain rfl := Option.some.inj h
  refine zV_pick (lo2 := [(0, .ref a0), (1, .int x1), (2, .int (t0 + t1)), (3, .int (x3 + 1))]) [2, 3, 1, 0] rfl ?_
  exact hL4 _ rfl
def k_leapsBefore_Ladder_38 (n : Nat) (x0 : vArr) (x1 : Int32) (x2 : Int32) (x3 : Int32) (t0 : Int32) : Option ((Int32 × Int32) ⊕ (Int32)) := (if ((x3 - x3 / 2 * 2) : Int32) = (0 : Int32) then (k_leapsBefore_Ladder_55 n x0 x1 x3 x2 t0) else (k_leapsBefore_Ladder_55 n x0 x1 x3 x2 (-t0)))
set_option maxHeartbeats 4000000 in
set_option maxRecDepth 100000 in
theorem ck_leapsBefore_Ladder_38 (s0 : State) (D : va_G) (cB cI cJ cD : ClassId) (n : Nat) (x0 : vArr) (x1 : Int32) (x2 : Int32) (x3 : Int32) (t0 : Int32) (a0 : Nat) {x : (Int32 × Int32) ⊕ (Int32)} {hi hm : zHp} {nx : Nat} {Q : Option Value → zHp → zHp → Nat → Prop} (ho0 : iLadder cI hi a0 x0) (h : k_leapsBefore_Ladder_38 n x0 x1 x2 x3 t0 = some x) (hL4 : ∀ s : Int32 × Int32, x = (.inl s) → zV s0 D (zty cB cI cJ cD) yX5_leapsBefore cX5_leapsBefore 5 (some .int) 1 22 0 0 4 [(0, .ref a0), (1, .int x1), (2, .int s.1), (3, .int s.2)] [] hi hm nx Q) (hQ : ∀ r : Int32, x = (.inr r) → Q (some (.int r)) hi hm nx) : zV s0 D (zty cB cI cJ cD) yX5_leapsBefore cX5_leapsBefore 5 (some .int) 1 22 0 0 38 [(0, .ref a0), (1, .int x1), (2, .int x2), (3, .int x3)] [.int t0] hi hm nx Q := by
  unfold k_leapsBefore_Ladder_38 at h
  refine zV_blk (pc' := 43) (lo' := [(4, .int t0), (0, .ref a0), (1, .int x1), (2, .int x2), (3, .int x3)]) (st' := [.int 2, .int x3, .int x2]) [.istore 4, .iload_n 2, .iload_n 3, .iconst 2] (by decide +kernel) rfl ?_
  refine zV_irem (by decide +kernel) (by decide +kernel) ?_
  refine zV_if_ne (tgt := 52) (off := 8) (by decide +kernel) (by decide) (fun q => ?_) (fun q => ?_)
  · replace h := zif_neg q h
    clear q
    refine zV_blk (pc' := 55) (lo' := [(4, .int t0), (0, .ref a0), (1, .int x1), (2, .int x2), (3, .int x3)]) (st' := [.int (-t0), .int x2]) [.iload 4, .ineg] (by decide +kernel) rfl ?_
    refine zV_pick (lo2 := [(0, .ref a0), (1, .int x1), (3, .int x3)]) [1, 2, 4] rfl ?_
    exact ck_leapsBefore_Ladder_55 s0 D cB cI cJ cD n x0 x1 x3 x2 (-t0) a0 ho0 h hL4 hQ
  · replace h := zif_pos q h
    clear q
    refine zV_blk (pc' := 49) (lo' := [(4, .int t0), (0, .ref a0), (1, .int x1), (2, .int x2), (3, .int x3)]) (st' := [.int t0, .int x2]) [.iload 4] (by decide +kernel) rfl ?_
    refine zV_goto (tgt := 55) (off := 6) (by decide +kernel) (by decide) ?_
    refine zV_pick (lo2 := [(0, .ref a0), (1, .int x1), (3, .int x3)]) [1, 2, 4] rfl ?_
    exact ck_leapsBefore_Ladder_55 s0 D cB cI cJ cD n x0 x1 x3 x2 t0 a0 ho0 h hL4 hQ
def k_leapsBefore_Ladder_4 (n : Nat) (x0 : vArr) (x1 : Int32) (s : Int32 × Int32) : Option ((Int32 × Int32) ⊕ (Int32)) := (if ((nI x0.1) : Int32) ≤ (s.2 : Int32) then some (.inr s.1) else zck (zin (s.2) x0.1) ((if ((x0.2 (s.2 : Int32).toNatClampNeg) : Int32) ≤ (0 : Int32) then (k_leapsBefore_Ladder_38 n x0 x1 s.1 s.2 0) else zck (zin (s.2) x0.1) ((j_fdivI (-x1) (x0.2 (s.2 : Int32).toNatClampNeg)).bind (fun v4 => (k_leapsBefore_Ladder_38 n x0 x1 s.1 s.2 (-v4)))))))
set_option maxHeartbeats 4000000 in
set_option maxRecDepth 100000 in
theorem ck_leapsBefore_Ladder_4 (s0 : State) (D : va_G) (cB cI cJ cD : ClassId) (n : Nat) (x0 : vArr) (x1 : Int32) (a0 : Nat) (s : Int32 × Int32) {x : (Int32 × Int32) ⊕ (Int32)} {hi hm : zHp} {nx : Nat} {Q : Option Value → zHp → zHp → Nat → Prop} (ho0 : iLadder cI hi a0 x0) (h : k_leapsBefore_Ladder_4 n x0 x1 s = some x) (hL4 : ∀ s : Int32 × Int32, x = (.inl s) → zV s0 D (zty cB cI cJ cD) yX5_leapsBefore cX5_leapsBefore 5 (some .int) 1 22 0 0 4 [(0, .ref a0), (1, .int x1), (2, .int s.1), (3, .int s.2)] [] hi hm nx Q) (hQ : ∀ r : Int32, x = (.inr r) → Q (some (.int r)) hi hm nx) : zV s0 D (zty cB cI cJ cD) yX5_leapsBefore cX5_leapsBefore 5 (some .int) 1 22 0 0 4 [(0, .ref a0), (1, .int x1), (2, .int s.1), (3, .int s.2)] [] hi hm nx Q := by
  unfold k_leapsBefore_Ladder_4 at h
  refine zV_blk (pc' := 6) (lo' := [(0, .ref a0), (1, .int x1), (2, .int s.1), (3, .int s.2)]) (st' := [.ref a0, .int s.2]) [.iload_n 3, .aload_n 0] (by decide +kernel) rfl ?_
  obtain ⟨b1, hc2, hb3⟩ := ho0
  refine zV_get (ci := 5) (idx := 7) (k := 0) (N := 1) (fs := [.ref b1]) (v := .ref b1) (Or.inl hc2) rfl z_in5 (by decide) (zT_mem 471 (by decide +kernel) rfl) rfl (by decide +kernel) ?_
  refine zV_alen 1 (Or.inl hb3) rfl (by decide +kernel) ?_
  refine zV_icmp_ge (tgt := 63) (off := 53) (by decide +kernel) (by decide) (fun q => ?_) (fun q => ?_)
  · replace h := zif_pos q h
    clear q
    refine zV_blk (pc' := 64) (lo' := [(0, .ref a0), (1, .int x1), (2, .int s.1), (3, .int s.2)]) (st' := [.int s.1]) [.iload_n 2] (by decide +kernel) rfl ?_
    obtain rfl := Option.some.inj h
    exact zV_iret rfl (by decide +kernel) (hQ _ rfl)
  · replace h := zif_neg q h
    clear q
    refine zV_blk (pc' := 14) (lo' := [(0, .ref a0), (1, .int x1), (2, .int s.1), (3, .int s.2)]) (st' := [.ref a0]) [.aload_n 0] (by decide +kernel) rfl ?_
    refine zV_get (ci := 5) (idx := 7) (k := 0) (N := 1) (fs := [.ref b1]) (v := .ref b1) (Or.inl hc2) rfl z_in5 (by decide) (zT_mem 471 (by decide +kernel) rfl) rfl (by decide +kernel) ?_
    refine zV_blk (pc' := 18) (lo' := [(0, .ref a0), (1, .int x1), (2, .int s.1), (3, .int s.2)]) (st' := [.int s.2, .ref b1]) [.iload_n 3] (by decide +kernel) rfl ?_
    obtain ⟨hz, h⟩ := zck_some h
    refine zV_iald 1 (Or.inl hb3) rfl (zin_in hz) (by decide +kernel) ?_
    refine zV_if_le (tgt := 37) (off := 18) (by decide +kernel) (by decide) (fun q => ?_) (fun q => ?_)
    · replace h := zif_pos q h
      clear q
      refine zV_blk (pc' := 38) (lo' := [(0, .ref a0), (1, .int x1), (2, .int s.1), (3, .int s.2)]) (st' := [.int 0]) [.iconst 0] (by decide +kernel) rfl ?_
      refine zV_pick (lo2 := [(0, .ref a0), (1, .int x1), (2, .int s.1), (3, .int s.2)]) [0, 1, 2, 3] rfl ?_
      exact ck_leapsBefore_Ladder_38 s0 D cB cI cJ cD n x0 x1 s.1 s.2 0 a0 ⟨b1, hc2, hb3⟩ h hL4 hQ
    · replace h := zif_neg q h
      clear q
      refine zV_blk (pc' := 25) (lo' := [(0, .ref a0), (1, .int x1), (2, .int s.1), (3, .int s.2)]) (st' := [.ref a0, .int (-x1)]) [.iload_n 1, .ineg, .aload_n 0] (by decide +kernel) rfl ?_
      refine zV_get (ci := 5) (idx := 7) (k := 0) (N := 1) (fs := [.ref b1]) (v := .ref b1) (Or.inl hc2) rfl z_in5 (by decide) (zT_mem 471 (by decide +kernel) rfl) rfl (by decide +kernel) ?_
      refine zV_blk (pc' := 29) (lo' := [(0, .ref a0), (1, .int x1), (2, .int s.1), (3, .int s.2)]) (st' := [.int s.2, .ref b1, .int (-x1)]) [.iload_n 3] (by decide +kernel) rfl ?_
      obtain ⟨hz, h⟩ := zck_some h
      refine zV_iald 1 (Or.inl hb3) rfl (zin_in hz) (by decide +kernel) ?_
      obtain ⟨v4, hv4, h⟩ := zbind h
      refine zV_roS (idx := 13) (rest := []) (fun Q2 hQ2 => cj_fdivI s0 D cB cI cJ cD (-x1) (x0.2 (s.2 : Int32).toNatClampNeg)  v4 hv4  hQ2) oJ9_floorDiv_7cf53 (zT_mem 643 (by decide +kernel) rfl) (zT_mem 638 (by decide +kernel) rfl) rfl rfl (Nat.le_of_ble_eq_true rfl) ⟨by decide, by decide⟩ (by decide +kernel) ?_
      refine zV_eq (st2 := [.int v4]) rfl rfl rfl rfl ?_
      refine zV_blk (pc' := 34) (lo' := [(0, .ref a0), (1, .int x1), (2, .int s.1), (3, .int s.2)]) (st' := [.int (-v4)]) [.ineg] (by decide +kernel) rfl ?_
      refine zV_goto (tgt := 38) (off := 4) (by decide +kernel) (by decide) ?_
      refine zV_pick (lo2 := [(0, .ref a0), (1, .int x1), (2, .int s.1), (3, .int s.2)]) [0, 1, 2, 3] rfl ?_
      exact ck_leapsBefore_Ladder_38 s0 D cB cI cJ cD n x0 x1 s.1 s.2 (-v4) a0 ⟨b1, hc2, hb3⟩ h hL4 hQ
theorem ck_leapsBefore_Ladder_4L (s0 : State) (D : va_G) (cB cI cJ cD : ClassId) (n : Nat) (x0 : vArr) (x1 : Int32) (a0 : Nat) : ∀ (k : Nat) (s : Int32 × Int32) {hi hm : zHp} {nx : Nat} {Q : Option Value → zHp → zHp → Nat → Prop} (ho0 : iLadder cI hi a0 x0) {x : Int32} (_ : zloop (k_leapsBefore_Ladder_4 n x0 x1) k s = some x) (hQ : ∀ r : Int32, x = r → Q (some (.int r)) hi hm nx), zV s0 D (zty cB cI cJ cD) yX5_leapsBefore cX5_leapsBefore 5 (some .int) 1 22 0 0 4 [(0, .ref a0), (1, .int x1), (2, .int s.1), (3, .int s.2)] [] hi hm nx Q
  | 0, s, _, _, _, _, _, _, h, _ => by cases h
  | k + 1, s, hi, hm, nx, Q, ho0, x, h, hQ => by
    obtain ⟨z, hz, h1, h2⟩ := zloop_succ h
    exact ck_leapsBefore_Ladder_4 s0 D cB cI cJ cD n x0 x1 a0 s ho0 hz (fun s' hs => ck_leapsBefore_Ladder_4L s0 D cB cI cJ cD n x0 x1 a0 k s' ho0 (h1 s' hs) hQ) (fun r hr => hQ r (h2 _ hr).symm)
def k_leapsBefore_Ladder (n : Nat) (x0 : vArr) (x1 : Int32) : Option (Int32) := (zloop (k_leapsBefore_Ladder_4 n x0 x1) n (0, 0))
theorem oX5_leapsBefore : zO yX5_leapsBefore cX5_leapsBefore 5 (some .int) 1 := ⟨zT_mem 642 (by decide +kernel) rfl, zT_mem 103 (by decide +kernel) rfl, by decide +kernel, by decide +kernel, by decide +kernel⟩
set_option maxHeartbeats 4000000 in
set_option maxRecDepth 100000 in
theorem ck_leapsBefore_Ladder (s0 : State) (D : va_G) (cB cI cJ cD : ClassId) (n : Nat) (x0 : vArr) (x1 : Int32) (a0 : Nat) (x : Int32) (h : k_leapsBefore_Ladder n x0 x1 = some x) {hi hm : zHp} {nx : Nat} {Q : Option Value → zHp → zHp → Nat → Prop} (ho0 : iLadder cI hi a0 x0) (hQ0 : Q (some (.int x)) hi hm nx) : zM s0 D (zty cB cI cJ cD) yX5_leapsBefore cX5_leapsBefore 5 (some .int) 1 22 0 0 [.ref a0, .int x1] hi hm nx Q := by
  have hQ : ∀ r : Int32, x = r → Q (some (.int r)) hi hm nx := fun r hr => by subst hr; exact hQ0
  clear hQ0
  refine zM_of (by decide +kernel) (Nat.le_of_ble_eq_true rfl) ?_
  unfold k_leapsBefore_Ladder at h
  refine zV_eq (lo2 := [(0, .ref a0), (1, .int x1)]) rfl rfl rfl rfl ?_
  refine zV_blk (pc' := 4) (lo' := [(3, .int 0), (2, .int 0), (0, .ref a0), (1, .int x1)]) (st' := []) [.iconst 0, .istore_n 2, .iconst 0, .istore_n 3] (by decide +kernel) rfl ?_
  refine zV_pick (lo2 := [(0, .ref a0), (1, .int x1), (2, .int 0), (3, .int 0)]) [2, 3, 1, 0] rfl ?_
  exact ck_leapsBefore_Ladder_4L s0 D cB cI cJ cD n x0 x1 a0 n (0, 0) ho0 h hQ

def k_leapsBefore_Row (x0 : vRow) (x1 : Int32) : Option (Int32) := (if (1 : Int32) ≤ (x0.2 : Int32) then (j_fdivI x1 x0.2).bind (fun v4 => zck (zin (x0.2) x0.1.1) ((j_fmodI x1 x0.2).bind (fun v5 => zck (zin (v5) x0.1.1) (some ((v4 * (x0.1.2 (x0.2 : Int32).toNatClampNeg)) + (x0.1.2 (v5 : Int32).toNatClampNeg)))))) else some 0)
theorem oX8_leapsBefore : zO yX8_leapsBefore cX8_leapsBefore 2 (some .int) 1 := ⟨zT_mem 646 (by decide +kernel) rfl, zT_mem 104 (by decide +kernel) rfl, by decide +kernel, by decide +kernel, by decide +kernel⟩
set_option maxHeartbeats 4000000 in
set_option maxRecDepth 100000 in
theorem ck_leapsBefore_Row (s0 : State) (D : va_G) (cB cI cJ cD : ClassId) (x0 : vRow) (x1 : Int32) (a0 : Nat) (x : Int32) (h : k_leapsBefore_Row x0 x1 = some x) {hi hm : zHp} {nx : Nat} {Q : Option Value → zHp → zHp → Nat → Prop} (ho0 : iRow cI hi a0 x0) (hQ0 : Q (some (.int x)) hi hm nx) : zM s0 D (zty cB cI cJ cD) yX8_leapsBefore cX8_leapsBefore 2 (some .int) 1 22 0 0 [.ref a0, .int x1] hi hm nx Q := by
  have hQ : ∀ r : Int32, x = r → Q (some (.int r)) hi hm nx := fun r hr => by subst hr; exact hQ0
  clear hQ0
  refine zM_of (by decide +kernel) (Nat.le_of_ble_eq_true rfl) ?_
  unfold k_leapsBefore_Row at h
  refine zV_eq (lo2 := [(0, .ref a0), (1, .int x1)]) rfl rfl rfl rfl ?_
  refine zV_blk (pc' := 1) (lo' := [(0, .ref a0), (1, .int x1)]) (st' := [.ref a0]) [.aload_n 0] (by decide +kernel) rfl ?_
  obtain ⟨b1, hc2, hb3⟩ := ho0
  refine zV_get (ci := 8) (idx := 13) (k := 1) (N := 2) (fs := [.ref b1, .int x0.2]) (v := .int x0.2) (Or.inl hc2) rfl z_in8 (by decide) (zT_mem 487 (by decide +kernel) rfl) rfl (by decide +kernel) ?_
  refine zV_blk (pc' := 5) (lo' := [(0, .ref a0), (1, .int x1)]) (st' := [.int 1, .int x0.2]) [.iconst 1] (by decide +kernel) rfl ?_
  refine zV_icmp_ge (tgt := 10) (off := 5) (by decide +kernel) (by decide) (fun q => ?_) (fun q => ?_)
  · replace h := zif_pos q h
    clear q
    refine zV_blk (pc' := 12) (lo' := [(0, .ref a0), (1, .int x1)]) (st' := [.ref a0, .int x1]) [.iload_n 1, .aload_n 0] (by decide +kernel) rfl ?_
    refine zV_get (ci := 8) (idx := 13) (k := 1) (N := 2) (fs := [.ref b1, .int x0.2]) (v := .int x0.2) (Or.inl hc2) rfl z_in8 (by decide) (zT_mem 487 (by decide +kernel) rfl) rfl (by decide +kernel) ?_
    obtain ⟨v4, hv4, h⟩ := zbind h
    refine zV_roS (idx := 23) (rest := []) (fun Q2 hQ2 => cj_fdivI s0 D cB cI cJ cD x1 x0.2  v4 hv4  hQ2) oJ9_floorDiv_7cf53 (zT_mem 647 (by decide +kernel) rfl) (zT_mem 638 (by decide +kernel) rfl) rfl rfl (Nat.le_of_ble_eq_true rfl) ⟨by decide, by decide⟩ (by decide +kernel) ?_
    refine zV_eq (st2 := [.int v4]) rfl rfl rfl rfl ?_
    refine zV_blk (pc' := 19) (lo' := [(0, .ref a0), (1, .int x1)]) (st' := [.ref a0, .int v4]) [.aload_n 0] (by decide +kernel) rfl ?_
    refine zV_get (ci := 8) (idx := 7) (k := 0) (N := 2) (fs := [.ref b1, .int x0.2]) (v := .ref b1) (Or.inl hc2) rfl z_in8 (by decide) (zT_mem 486 (by decide +kernel) rfl) rfl (by decide +kernel) ?_
    refine zV_blk (pc' := 23) (lo' := [(0, .ref a0), (1, .int x1)]) (st' := [.ref a0, .ref b1, .int v4]) [.aload_n 0] (by decide +kernel) rfl ?_
    refine zV_get (ci := 8) (idx := 13) (k := 1) (N := 2) (fs := [.ref b1, .int x0.2]) (v := .int x0.2) (Or.inl hc2) rfl z_in8 (by decide) (zT_mem 487 (by decide +kernel) rfl) rfl (by decide +kernel) ?_
    obtain ⟨hz, h⟩ := zck_some h
    refine zV_iald 1 (Or.inl hb3) rfl (zin_in hz) (by decide +kernel) ?_
    refine zV_blk (pc' := 29) (lo' := [(0, .ref a0), (1, .int x1)]) (st' := [.ref a0, .int (v4 * (x0.1.2 (x0.2 : Int32).toNatClampNeg))]) [.imul, .aload_n 0] (by decide +kernel) rfl ?_
    refine zV_get (ci := 8) (idx := 7) (k := 0) (N := 2) (fs := [.ref b1, .int x0.2]) (v := .ref b1) (Or.inl hc2) rfl z_in8 (by decide) (zT_mem 486 (by decide +kernel) rfl) rfl (by decide +kernel) ?_
    refine zV_blk (pc' := 34) (lo' := [(0, .ref a0), (1, .int x1)]) (st' := [.ref a0, .int x1, .ref b1, .int (v4 * (x0.1.2 (x0.2 : Int32).toNatClampNeg))]) [.iload_n 1, .aload_n 0] (by decide +kernel) rfl ?_
    refine zV_get (ci := 8) (idx := 13) (k := 1) (N := 2) (fs := [.ref b1, .int x0.2]) (v := .int x0.2) (Or.inl hc2) rfl z_in8 (by decide) (zT_mem 487 (by decide +kernel) rfl) rfl (by decide +kernel) ?_
    obtain ⟨v5, hv5, h⟩ := zbind h
    refine zV_roS (idx := 17) (rest := [.ref b1, .int (v4 * (x0.1.2 (x0.2 : Int32).toNatClampNeg))]) (fun Q2 hQ2 => cj_fmodI s0 D cB cI cJ cD x1 x0.2  v5 hv5  hQ2) oJ9_floorMod_7cf53 (zT_mem 648 (by decide +kernel) rfl) (zT_mem 649 (by decide +kernel) rfl) rfl rfl (Nat.le_of_ble_eq_true rfl) ⟨by decide, by decide⟩ (by decide +kernel) ?_
    refine zV_eq (st2 := [.int v5, .ref b1, .int (v4 * (x0.1.2 (x0.2 : Int32).toNatClampNeg))]) rfl rfl rfl rfl ?_
    obtain ⟨hz, h⟩ := zck_some h
    refine zV_iald 1 (Or.inl hb3) rfl (zin_in hz) (by decide +kernel) ?_
    refine zV_blk (pc' := 42) (lo' := [(0, .ref a0), (1, .int x1)]) (st' := [.int ((v4 * (x0.1.2 (x0.2 : Int32).toNatClampNeg)) + (x0.1.2 (v5 : Int32).toNatClampNeg))]) [.iadd] (by decide +kernel) rfl ?_
    obtain rfl := Option.some.inj h
    exact zV_iret rfl (by decide +kernel) (hQ _ rfl)
  · replace h := zif_neg q h
    clear q
    refine zV_blk (pc' := 9) (lo' := [(0, .ref a0), (1, .int x1)]) (st' := [.int 0]) [.iconst 0] (by decide +kernel) rfl ?_
    obtain rfl := Option.some.inj h
    exact zV_iret rfl (by decide +kernel) (hQ _ rfl)

def d_leapsBefore (n : Nat) (v : vLaw) (z0 : Int32) : Option Int32 := match v with
  | .inl _ => k_leapsBefore_None z0
  | .inr (.inl v) => k_leapsBefore_Even v z0
  | .inr (.inr (.inl v)) => k_leapsBefore_Ladder n v z0
  | .inr (.inr (.inr v)) => k_leapsBefore_Row v z0
set_option maxHeartbeats 4000000 in
set_option maxRecDepth 100000 in
theorem dc_leapsBefore (s0 : State) (D : va_G) (cB cI cJ cD : ClassId) (n : Nat) (v : vLaw) (z0 : Int32) (b : Nat) (r : Int32) (h : d_leapsBefore n v z0 = some r) {y : MethodName} {cc : ByteArray} {nL : Nat} {ret : Option FieldType} {rF rL mc ms pc idx : Nat} {lo : List (Nat × Value)} {st rest : List Value} {hi hm : zHp} {nx : Nat} {Q : Option Value → zHp → zHp → Nat → Prop} (hb : iLaw cI hi b v) (hlink : Cond.methodLink y.cls idx yX6_leapsBefore ∈ zT) (hst : st = ([.int z0] : List Value).reverse ++ .ref b :: rest) (hrest : (rest.map fun v => v.category).sum ≤ 8) (hR : 1 + 1 ≤ rF ∧ 19 + 27 ≤ rL) (hd : decode cc pc = .ok (.invokevirtual idx, 3)) (k : zV s0 D (zty cB cI cJ cD) y cc nL ret rF rL mc ms (pc + 3) lo (.int r :: rest) hi hm nx Q) : zV s0 D (zty cB cI cJ cD) y cc nL ret rF rL mc ms pc lo st hi hm nx Q := by
  rcases v with ⟨⟩ | v | v | v
  · have hk := hb
    exact zV_roV (idx := idx) (rest := rest) (ci := 6) (fun Q2 hQ2 => ck_leapsBefore_None s0 D cB cI cJ cD z0 b r h hb hQ2) oX6_leapsBefore (Or.inl hk) rfl hlink (zT_mem 631 (by decide +kernel) rfl) (zT_mem 632 (by decide +kernel) rfl) rfl hst hrest ⟨by omega, by omega⟩ hd k
  · have hk := hb
    exact zV_roU (x := yX6_leapsBefore) (owner := RX6) (C := RX1) (idx := idx) (rest := rest) (ci := 1) (b0 := cX6_leapsBefore) (m0 := 2) (r0 := some .int) (fun Q2 hQ2 => ck_leapsBefore_Even s0 D cB cI cJ cD v z0 b r h hb hQ2) oX1_leapsBefore (Or.inl hk) rfl hlink (zT_mem 633 (by decide +kernel) rfl) (zT_mem 631 (by decide +kernel) rfl) (zT_mem 634 (by decide +kernel) rfl) (zT_mem 635 (by decide +kernel) rfl) (zT_mem 651 (by decide +kernel) rfl) ⟨by decide +kernel, by decide +kernel, by decide +kernel⟩ rfl hst hrest ⟨by omega, by omega⟩ hd k
  · obtain ⟨_, hk, _⟩ := id hb
    exact zV_roU (x := yX6_leapsBefore) (owner := RX6) (C := RX5) (idx := idx) (rest := rest) (ci := 5) (b0 := cX6_leapsBefore) (m0 := 2) (r0 := some .int) (fun Q2 hQ2 => ck_leapsBefore_Ladder s0 D cB cI cJ cD n v z0 b r h hb hQ2) oX5_leapsBefore (Or.inl hk) rfl hlink (zT_mem 633 (by decide +kernel) rfl) (zT_mem 631 (by decide +kernel) rfl) (zT_mem 640 (by decide +kernel) rfl) (zT_mem 641 (by decide +kernel) rfl) (zT_mem 651 (by decide +kernel) rfl) ⟨by decide +kernel, by decide +kernel, by decide +kernel⟩ rfl hst hrest ⟨by omega, by omega⟩ hd k
  · obtain ⟨_, hk, _⟩ := id hb
    exact zV_roU (x := yX6_leapsBefore) (owner := RX6) (C := RX8) (idx := idx) (rest := rest) (ci := 8) (b0 := cX6_leapsBefore) (m0 := 2) (r0 := some .int) (fun Q2 hQ2 => ck_leapsBefore_Row s0 D cB cI cJ cD v z0 b r h hb hQ2) oX8_leapsBefore (Or.inl hk) rfl hlink (zT_mem 633 (by decide +kernel) rfl) (zT_mem 631 (by decide +kernel) rfl) (zT_mem 644 (by decide +kernel) rfl) (zT_mem 645 (by decide +kernel) rfl) (zT_mem 651 (by decide +kernel) rfl) ⟨by decide +kernel, by decide +kernel, by decide +kernel⟩ rfl hst hrest ⟨by omega, by omega⟩ hd k

def k_leapsInCycle (n : Nat) (x0 : vLaw) : Option (Int32) := (d_cycle x0).bind (fun v1 => (d_leapsBefore n x0 v1).bind (fun v2 => some v2))
theorem oX6_leapsInCycle : zO yX6_leapsInCycle cX6_leapsInCycle 1 (some .int) 0 := ⟨zT_mem 628 (by decide +kernel) rfl, zT_mem 98 (by decide +kernel) rfl, by decide +kernel, by decide +kernel, by decide +kernel⟩
set_option maxHeartbeats 4000000 in
set_option maxRecDepth 100000 in
theorem ck_leapsInCycle (s0 : State) (D : va_G) (cB cI cJ cD : ClassId) (n : Nat) (x0 : vLaw) (a0 : Nat) (x : Int32) (h : k_leapsInCycle n x0 = some x) {hi hm : zHp} {nx : Nat} {Q : Option Value → zHp → zHp → Nat → Prop} (ho0 : iLaw cI hi a0 x0) (hQ0 : Q (some (.int x)) hi hm nx) : zM s0 D (zty cB cI cJ cD) yX6_leapsInCycle cX6_leapsInCycle 1 (some .int) 2 46 0 0 [.ref a0] hi hm nx Q := by
  have hQ : ∀ r : Int32, x = r → Q (some (.int r)) hi hm nx := fun r hr => by subst hr; exact hQ0
  clear hQ0
  refine zM_of (by decide +kernel) (Nat.le_of_ble_eq_true rfl) ?_
  unfold k_leapsInCycle at h
  refine zV_eq (lo2 := [(0, .ref a0)]) rfl rfl rfl rfl ?_
  refine zV_blk (pc' := 2) (lo' := [(0, .ref a0)]) (st' := [.ref a0, .ref a0]) [.aload_n 0, .aload_n 0] (by decide +kernel) rfl ?_
  obtain ⟨v1, hv1, h⟩ := zbind h
  refine dc_cycle s0 D cB cI cJ cD (idx := 7) x0 a0 v1 hv1 ho0 (zT_mem 629 (by decide +kernel) rfl) (rest := [.ref a0]) rfl (Nat.le_of_ble_eq_true rfl) ⟨by decide, by decide⟩ (by decide +kernel) ?_
  refine zV_eq (st2 := [.int v1, .ref a0]) rfl rfl rfl rfl ?_
  obtain ⟨v2, hv2, h⟩ := zbind h
  refine dc_leapsBefore s0 D cB cI cJ cD (idx := 13) n x0 v1 a0 v2 hv2 ho0 (zT_mem 630 (by decide +kernel) rfl) (rest := []) rfl (Nat.le_of_ble_eq_true rfl) ⟨by decide, by decide⟩ (by decide +kernel) ?_
  refine zV_eq (st2 := [.int v2]) rfl rfl rfl rfl ?_
  obtain rfl := Option.some.inj h
  exact zV_iret rfl (by decide +kernel) (hQ _ rfl)

set_option maxHeartbeats 4000000 in
set_option maxRecDepth 100000 in
theorem dc_leapsInCycle (s0 : State) (D : va_G) (cB cI cJ cD : ClassId) (n : Nat) (v : vLaw) (b : Nat) (r : Int32) (h : k_leapsInCycle n v = some r) {y : MethodName} {cc : ByteArray} {nL : Nat} {ret : Option FieldType} {rF rL mc ms pc idx : Nat} {lo : List (Nat × Value)} {st rest : List Value} {hi hm : zHp} {nx : Nat} {Q : Option Value → zHp → zHp → Nat → Prop} (hb : iLaw cI hi b v) (hlink : Cond.methodLink y.cls idx yX6_leapsInCycle ∈ zT) (hst : st = ([] : List Value).reverse ++ .ref b :: rest) (hrest : (rest.map fun v => v.category).sum ≤ 8) (hR : 2 + 1 ≤ rF ∧ 19 + 47 ≤ rL) (hd : decode cc pc = .ok (.invokevirtual idx, 3)) (k : zV s0 D (zty cB cI cJ cD) y cc nL ret rF rL mc ms (pc + 3) lo (.int r :: rest) hi hm nx Q) : zV s0 D (zty cB cI cJ cD) y cc nL ret rF rL mc ms pc lo st hi hm nx Q := by
  have hC : ∀ Q2 : Option Value → zHp → zHp → Nat → Prop, Q2 (some (.int r)) hi hm nx → zM s0 D (zty cB cI cJ cD) yX6_leapsInCycle cX6_leapsInCycle 1 (some .int) 2 46 0 0 [.ref b] hi hm nx Q2 := fun Q2 hQ2 => ck_leapsInCycle s0 D cB cI cJ cD n v b r h hb hQ2
  clear h
  rcases v with ⟨⟩ | v | v | v
  · have hk := hb
    exact zV_roV (idx := idx) (As := []) (rest := rest) (ci := 6) hC oX6_leapsInCycle (Or.inl hk) rfl hlink (zT_mem 622 (by decide +kernel) rfl) (zT_mem 623 (by decide +kernel) rfl) rfl hst hrest ⟨by omega, by omega⟩ hd k
  · have hk := hb
    exact zV_roU (x := yX6_leapsInCycle) (owner := RX6) (C := RX1) (idx := idx) (As := []) (rest := rest) (ci := 1) (b0 := cX6_leapsInCycle) (m0 := 1) (r0 := some .int) hC oX6_leapsInCycle (Or.inl hk) rfl hlink (zT_mem 624 (by decide +kernel) rfl) (zT_mem 622 (by decide +kernel) rfl) (zT_mem 625 (by decide +kernel) rfl) (zT_mem 622 (by decide +kernel) rfl) (zT_mem 628 (by decide +kernel) rfl) ⟨by decide +kernel, by decide +kernel, by decide +kernel⟩ rfl hst hrest ⟨by omega, by omega⟩ hd k
  · obtain ⟨_, hk, _⟩ := id hb
    exact zV_roU (x := yX6_leapsInCycle) (owner := RX6) (C := RX5) (idx := idx) (As := []) (rest := rest) (ci := 5) (b0 := cX6_leapsInCycle) (m0 := 1) (r0 := some .int) hC oX6_leapsInCycle (Or.inl hk) rfl hlink (zT_mem 624 (by decide +kernel) rfl) (zT_mem 622 (by decide +kernel) rfl) (zT_mem 626 (by decide +kernel) rfl) (zT_mem 622 (by decide +kernel) rfl) (zT_mem 628 (by decide +kernel) rfl) ⟨by decide +kernel, by decide +kernel, by decide +kernel⟩ rfl hst hrest ⟨by omega, by omega⟩ hd k
  · obtain ⟨_, hk, _⟩ := id hb
    exact zV_roU (x := yX6_leapsInCycle) (owner := RX6) (C := RX8) (idx := idx) (As := []) (rest := rest) (ci := 8) (b0 := cX6_leapsInCycle) (m0 := 1) (r0 := some .int) hC oX6_leapsInCycle (Or.inl hk) rfl hlink (zT_mem 624 (by decide +kernel) rfl) (zT_mem 622 (by decide +kernel) rfl) (zT_mem 627 (by decide +kernel) rfl) (zT_mem 622 (by decide +kernel) rfl) (zT_mem 628 (by decide +kernel) rfl) ⟨by decide +kernel, by decide +kernel, by decide +kernel⟩ rfl hst hrest ⟨by omega, by omega⟩ hd k

def k_aboveYear (x0 : vDes) : Option (Int64) := some ((((x0.2.2.1 - x0.1.1) : Int32).toInt64 * (x0.2.2.2.2.1 : Int32).toInt64) + (x0.2.2.2.1 : Int32).toInt64)
theorem oX0_aboveYear : zO yX0_aboveYear cX0_aboveYear 1 (some .long) 0 := ⟨zT_mem 1375 (by decide +kernel) rfl, zT_mem 105 (by decide +kernel) rfl, by decide +kernel, by decide +kernel, by decide +kernel⟩
set_option maxHeartbeats 4000000 in
set_option maxRecDepth 100000 in
theorem ck_aboveYear (s0 : State) (D : va_G) (cB cI cJ cD : ClassId) (x0 : vDes) (a0 : Nat) (x : Int64) (h : k_aboveYear x0 = some x) {hi hm : zHp} {nx : Nat} {Q : Option Value → zHp → zHp → Nat → Prop} (ho0 : iDes cI hi a0 x0) (hQ0 : Q (some (.long x)) hi hm nx) : zM s0 D (zty cB cI cJ cD) yX0_aboveYear cX0_aboveYear 1 (some .long) 0 0 0 0 [.ref a0] hi hm nx Q := by
  have hQ : ∀ r : Int64, x = r → Q (some (.long r)) hi hm nx := fun r hr => by subst hr; exact hQ0
  clear hQ0
  refine zM_of (by decide +kernel) (Nat.le_of_ble_eq_true rfl) ?_
  unfold k_aboveYear at h
  refine zV_eq (lo2 := [(0, .ref a0)]) rfl rfl rfl rfl ?_
  refine zV_blk (pc' := 1) (lo' := [(0, .ref a0)]) (st' := [.ref a0]) [.aload_n 0] (by decide +kernel) rfl ?_
  obtain ⟨b1, b2, b3, hc4, hc5, hc6, hc7⟩ := ho0
  refine zV_get (ci := 0) (idx := 19) (k := 2) (N := 3) (fs := [.ref b1, .ref b2, .ref b3]) (v := .ref b3) (Or.inl hc4) rfl z_in0 (by decide) (zT_mem 567 (by decide +kernel) rfl) rfl (by decide +kernel) ?_
  refine zV_get (ci := 10) (idx := 57) (k := 0) (N := 5) (fs := [.int x0.2.2.1, .int x0.2.2.2.1, .int x0.2.2.2.2.1, .int x0.2.2.2.2.2.1, .int x0.2.2.2.2.2.2]) (v := .int x0.2.2.1) (Or.inl hc7) rfl z_in10 (by decide) (zT_mem 278 (by decide +kernel) rfl) rfl (by decide +kernel) ?_
  refine zV_blk (pc' := 8) (lo' := [(0, .ref a0)]) (st' := [.ref a0, .int x0.2.2.1]) [.aload_n 0] (by decide +kernel) rfl ?_
  refine zV_get (ci := 0) (idx := 9) (k := 0) (N := 3) (fs := [.ref b1, .ref b2, .ref b3]) (v := .ref b1) (Or.inl hc4) rfl z_in0 (by decide) (zT_mem 563 (by decide +kernel) rfl) rfl (by decide +kernel) ?_
  obtain ⟨b8, hc9, hb10⟩ := hc5
  refine zV_get (ci := 3) (idx := 61) (k := 0) (N := 6) (fs := [.int x0.1.1, .int x0.1.2.1, .ref b8, .int x0.1.2.2.2.1, .int x0.1.2.2.2.2.1, .int x0.1.2.2.2.2.2]) (v := .int x0.1.1) (Or.inl hc9) rfl z_in3 (by decide) (zT_mem 533 (by decide +kernel) rfl) rfl (by decide +kernel) ?_
  refine zV_blk (pc' := 17) (lo' := [(0, .ref a0)]) (st' := [.ref a0, .long ((x0.2.2.1 - x0.1.1) : Int32).toInt64]) [.isub, .i2l, .aload_n 0] (by decide +kernel) rfl ?_
  refine zV_get (ci := 0) (idx := 19) (k := 2) (N := 3) (fs := [.ref b1, .ref b2, .ref b3]) (v := .ref b3) (Or.inl hc4) rfl z_in0 (by decide) (zT_mem 567 (by decide +kernel) rfl) rfl (by decide +kernel) ?_
  refine zV_get (ci := 10) (idx := 64) (k := 2) (N := 5) (fs := [.int x0.2.2.1, .int x0.2.2.2.1, .int x0.2.2.2.2.1, .int x0.2.2.2.2.2.1, .int x0.2.2.2.2.2.2]) (v := .int x0.2.2.2.2.1) (Or.inl hc7) rfl z_in10 (by decide) (zT_mem 282 (by decide +kernel) rfl) rfl (by decide +kernel) ?_
  refine zV_blk (pc' := 26) (lo' := [(0, .ref a0)]) (st' := [.ref a0, .long (((x0.2.2.1 - x0.1.1) : Int32).toInt64 * (x0.2.2.2.2.1 : Int32).toInt64)]) [.i2l, .lmul, .aload_n 0] (by decide +kernel) rfl ?_
  refine zV_get (ci := 0) (idx := 19) (k := 2) (N := 3) (fs := [.ref b1, .ref b2, .ref b3]) (v := .ref b3) (Or.inl hc4) rfl z_in0 (by decide) (zT_mem 567 (by decide +kernel) rfl) rfl (by decide +kernel) ?_
  refine zV_get (ci := 10) (idx := 67) (k := 1) (N := 5) (fs := [.int x0.2.2.1, .int x0.2.2.2.1, .int x0.2.2.2.2.1, .int x0.2.2.2.2.2.1, .int x0.2.2.2.2.2.2]) (v := .int x0.2.2.2.1) (Or.inl hc7) rfl z_in10 (by decide) (zT_mem 280 (by decide +kernel) rfl) rfl (by decide +kernel) ?_
  refine zV_blk (pc' := 34) (lo' := [(0, .ref a0)]) (st' := [.long ((((x0.2.2.1 - x0.1.1) : Int32).toInt64 * (x0.2.2.2.2.1 : Int32).toInt64) + (x0.2.2.2.1 : Int32).toInt64)]) [.i2l, .ladd] (by decide +kernel) rfl ?_
  obtain rfl := Option.some.inj h
  exact zV_lret rfl (by decide +kernel) (hQ _ rfl)

def k_daysOf (n : Nat) (x0 : vDes) (x1 : Int32) : Option (Int32) := (d_isLeap n x0.2.1 x1).bind (fun v8 => (k_yearDays x0.1 (zb v8)).bind (fun v9 => some v9))
theorem oX0_daysOf : zO yX0_daysOf cX0_daysOf 2 (some .int) 1 := ⟨zT_mem 1044 (by decide +kernel) rfl, zT_mem 105 (by decide +kernel) rfl, by decide +kernel, by decide +kernel, by decide +kernel⟩
set_option maxHeartbeats 4000000 in
set_option maxRecDepth 100000 in
theorem ck_daysOf (s0 : State) (D : va_G) (cB cI cJ cD : ClassId) (n : Nat) (x0 : vDes) (x1 : Int32) (a0 : Nat) (x : Int32) (h : k_daysOf n x0 x1 = some x) {hi hm : zHp} {nx : Nat} {Q : Option Value → zHp → zHp → Nat → Prop} (ho0 : iDes cI hi a0 x0) (hQ0 : Q (some (.int x)) hi hm nx) : zM s0 D (zty cB cI cJ cD) yX0_daysOf cX0_daysOf 2 (some .int) 2 44 0 0 [.ref a0, .int x1] hi hm nx Q := by
  have hQ : ∀ r : Int32, x = r → Q (some (.int r)) hi hm nx := fun r hr => by subst hr; exact hQ0
  clear hQ0
  refine zM_of (by decide +kernel) (Nat.le_of_ble_eq_true rfl) ?_
  unfold k_daysOf at h
  refine zV_eq (lo2 := [(0, .ref a0), (1, .int x1)]) rfl rfl rfl rfl ?_
  refine zV_blk (pc' := 1) (lo' := [(0, .ref a0), (1, .int x1)]) (st' := [.ref a0]) [.aload_n 0] (by decide +kernel) rfl ?_
  obtain ⟨b1, b2, b3, hc4, hc5, hc6, hc7⟩ := ho0
  refine zV_get (ci := 0) (idx := 9) (k := 0) (N := 3) (fs := [.ref b1, .ref b2, .ref b3]) (v := .ref b1) (Or.inl hc4) rfl z_in0 (by decide) (zT_mem 563 (by decide +kernel) rfl) rfl (by decide +kernel) ?_
  refine zV_blk (pc' := 5) (lo' := [(0, .ref a0), (1, .int x1)]) (st' := [.ref a0, .ref b1]) [.aload_n 0] (by decide +kernel) rfl ?_
  refine zV_get (ci := 0) (idx := 15) (k := 1) (N := 3) (fs := [.ref b1, .ref b2, .ref b3]) (v := .ref b2) (Or.inl hc4) rfl z_in0 (by decide) (zT_mem 565 (by decide +kernel) rfl) rfl (by decide +kernel) ?_
  refine zV_blk (pc' := 9) (lo' := [(0, .ref a0), (1, .int x1)]) (st' := [.int x1, .ref b2, .ref b1]) [.iload_n 1] (by decide +kernel) rfl ?_
  obtain ⟨v8, hv8, h⟩ := zbind h
  refine dc_isLeap s0 D cB cI cJ cD (idx := 70) n x0.2.1 x1 b2 v8 hv8 hc6 (zT_mem 1045 (by decide +kernel) rfl) (rest := [.ref b1]) rfl (Nat.le_of_ble_eq_true rfl) ⟨by decide, by decide⟩ (by decide +kernel) ?_
  refine zV_eq (st2 := [.int (zb v8), .ref b1]) rfl rfl rfl rfl ?_
  obtain ⟨v9, hv9, h⟩ := zbind h
  obtain ⟨b10, hc11, hb12⟩ := hc5
  refine zV_roV (idx := 74) (rest := []) (fs := [.int x0.1.1, .int x0.1.2.1, .ref b10, .int x0.1.2.2.2.1, .int x0.1.2.2.2.2.1, .int x0.1.2.2.2.2.2]) (ci := 3) (fun Q2 hQ2 => ck_yearDays s0 D cB cI cJ cD x0.1 (zb v8) b1 v9 hv9 ⟨b10, hc11, hb12⟩ hQ2) oX3_yearDays (Or.inl hc11) rfl (zT_mem 1046 (by decide +kernel) rfl) (zT_mem 1047 (by decide +kernel) rfl) (zT_mem 1048 (by decide +kernel) rfl) rfl rfl (Nat.le_of_ble_eq_true rfl) ⟨by decide, by decide⟩ (by decide +kernel) ?_
  refine zV_eq (st2 := [.int v9]) rfl rfl rfl rfl ?_
  obtain rfl := Option.some.inj h
  exact zV_iret rfl (by decide +kernel) (hQ _ rfl)

def k_startOf (n : Nat) (x0 : vDes) (x1 : Int32) : Option (Int64) := (d_leapsBefore n x0.2.1 x1).bind (fun v11 => some (((x1 : Int32).toInt64 * (x0.1.1 : Int32).toInt64) + ((v11 : Int32).toInt64 * (x0.1.2.1 : Int32).toInt64)))
theorem oX0_startOf : zO yX0_startOf cX0_startOf 2 (some .long) 1 := ⟨zT_mem 721 (by decide +kernel) rfl, zT_mem 105 (by decide +kernel) rfl, by decide +kernel, by decide +kernel, by decide +kernel⟩
set_option maxHeartbeats 4000000 in
set_option maxRecDepth 100000 in
theorem ck_startOf (s0 : State) (D : va_G) (cB cI cJ cD : ClassId) (n : Nat) (x0 : vDes) (x1 : Int32) (a0 : Nat) (x : Int64) (h : k_startOf n x0 x1 = some x) {hi hm : zHp} {nx : Nat} {Q : Option Value → zHp → zHp → Nat → Prop} (ho0 : iDes cI hi a0 x0) (hQ0 : Q (some (.long x)) hi hm nx) : zM s0 D (zty cB cI cJ cD) yX0_startOf cX0_startOf 2 (some .long) 2 46 0 0 [.ref a0, .int x1] hi hm nx Q := by
  have hQ : ∀ r : Int64, x = r → Q (some (.long r)) hi hm nx := fun r hr => by subst hr; exact hQ0
  clear hQ0
  refine zM_of (by decide +kernel) (Nat.le_of_ble_eq_true rfl) ?_
  unfold k_startOf at h
  refine zV_eq (lo2 := [(0, .ref a0), (1, .int x1)]) rfl rfl rfl rfl ?_
  refine zV_blk (pc' := 3) (lo' := [(0, .ref a0), (1, .int x1)]) (st' := [.ref a0, .long (x1 : Int32).toInt64]) [.iload_n 1, .i2l, .aload_n 0] (by decide +kernel) rfl ?_
  obtain ⟨b1, b2, b3, hc4, hc5, hc6, hc7⟩ := ho0
  refine zV_get (ci := 0) (idx := 9) (k := 0) (N := 3) (fs := [.ref b1, .ref b2, .ref b3]) (v := .ref b1) (Or.inl hc4) rfl z_in0 (by decide) (zT_mem 563 (by decide +kernel) rfl) rfl (by decide +kernel) ?_
  obtain ⟨b8, hc9, hb10⟩ := hc5
  refine zV_get (ci := 3) (idx := 61) (k := 0) (N := 6) (fs := [.int x0.1.1, .int x0.1.2.1, .ref b8, .int x0.1.2.2.2.1, .int x0.1.2.2.2.2.1, .int x0.1.2.2.2.2.2]) (v := .int x0.1.1) (Or.inl hc9) rfl z_in3 (by decide) (zT_mem 533 (by decide +kernel) rfl) rfl (by decide +kernel) ?_
  refine zV_blk (pc' := 12) (lo' := [(0, .ref a0), (1, .int x1)]) (st' := [.ref a0, .long ((x1 : Int32).toInt64 * (x0.1.1 : Int32).toInt64)]) [.i2l, .lmul, .aload_n 0] (by decide +kernel) rfl ?_
  refine zV_get (ci := 0) (idx := 15) (k := 1) (N := 3) (fs := [.ref b1, .ref b2, .ref b3]) (v := .ref b2) (Or.inl hc4) rfl z_in0 (by decide) (zT_mem 565 (by decide +kernel) rfl) rfl (by decide +kernel) ?_
  refine zV_blk (pc' := 16) (lo' := [(0, .ref a0), (1, .int x1)]) (st' := [.int x1, .ref b2, .long ((x1 : Int32).toInt64 * (x0.1.1 : Int32).toInt64)]) [.iload_n 1] (by decide +kernel) rfl ?_
  obtain ⟨v11, hv11, h⟩ := zbind h
  refine dc_leapsBefore s0 D cB cI cJ cD (idx := 78) n x0.2.1 x1 b2 v11 hv11 hc6 (zT_mem 722 (by decide +kernel) rfl) (rest := [.long ((x1 : Int32).toInt64 * (x0.1.1 : Int32).toInt64)]) rfl (Nat.le_of_ble_eq_true rfl) ⟨by decide, by decide⟩ (by decide +kernel) ?_
  refine zV_eq (st2 := [.int v11, .long ((x1 : Int32).toInt64 * (x0.1.1 : Int32).toInt64)]) rfl rfl rfl rfl ?_
  refine zV_blk (pc' := 21) (lo' := [(0, .ref a0), (1, .int x1)]) (st' := [.ref a0, .long (v11 : Int32).toInt64, .long ((x1 : Int32).toInt64 * (x0.1.1 : Int32).toInt64)]) [.i2l, .aload_n 0] (by decide +kernel) rfl ?_
  refine zV_get (ci := 0) (idx := 9) (k := 0) (N := 3) (fs := [.ref b1, .ref b2, .ref b3]) (v := .ref b1) (Or.inl hc4) rfl z_in0 (by decide) (zT_mem 563 (by decide +kernel) rfl) rfl (by decide +kernel) ?_
  refine zV_get (ci := 3) (idx := 82) (k := 1) (N := 6) (fs := [.int x0.1.1, .int x0.1.2.1, .ref b8, .int x0.1.2.2.2.1, .int x0.1.2.2.2.2.1, .int x0.1.2.2.2.2.2]) (v := .int x0.1.2.1) (Or.inl hc9) rfl z_in3 (by decide) (zT_mem 537 (by decide +kernel) rfl) rfl (by decide +kernel) ?_
  refine zV_blk (pc' := 30) (lo' := [(0, .ref a0), (1, .int x1)]) (st' := [.long (((x1 : Int32).toInt64 * (x0.1.1 : Int32).toInt64) + ((v11 : Int32).toInt64 * (x0.1.2.1 : Int32).toInt64))]) [.i2l, .lmul, .ladd] (by decide +kernel) rfl ?_
  obtain rfl := Option.some.inj h
  exact zV_lret rfl (by decide +kernel) (hQ _ rfl)

def k_holds (n : Nat) (x0 : vDes) (x1 : Int64) : Option (Bool) := (k_startOf n x0 (-100000)).bind (fun v1 => (if (x1 : Int64) < (v1 : Int64) then some false else (k_startOf n x0 100001).bind (fun v9 => (if (v9 : Int64) ≤ (x1 : Int64) then some false else some true))))
theorem oX0_holds : zO yX0_holds cX0_holds 3 (some .boolean) 1 := ⟨zT_mem 1061 (by decide +kernel) rfl, zT_mem 105 (by decide +kernel) rfl, by decide +kernel, by decide +kernel, by decide +kernel⟩
set_option maxHeartbeats 4000000 in
set_option maxRecDepth 100000 in
theorem ck_holds (s0 : State) (D : va_G) (cB cI cJ cD : ClassId) (n : Nat) (x0 : vDes) (x1 : Int64) (a0 : Nat) (x : Bool) (h : k_holds n x0 x1 = some x) {hi hm : zHp} {nx : Nat} {Q : Option Value → zHp → zHp → Nat → Prop} (ho0 : iDes cI hi a0 x0) (hQ0 : Q (some (.int (zb x))) hi hm nx) : zM s0 D (zty cB cI cJ cD) yX0_holds cX0_holds 3 (some .boolean) 3 67 0 0 [.ref a0, .long x1] hi hm nx Q := by
  have hQ : ∀ r : Bool, x = r → Q (some (.int (zb r))) hi hm nx := fun r hr => by subst hr; exact hQ0
  clear hQ0
  refine zM_of (by decide +kernel) (Nat.le_of_ble_eq_true rfl) ?_
  unfold k_holds at h
  refine zV_eq (lo2 := [(0, .ref a0), (1, .long x1)]) rfl rfl rfl rfl ?_
  refine zV_blk (pc' := 2) (lo' := [(0, .ref a0), (1, .long x1)]) (st' := [.ref a0, .long x1]) [.lload_n 1, .aload_n 0] (by decide +kernel) rfl ?_
  refine zV_ldc (idx := 85) (v := (-100000)) (zT_mem 1062 (by decide +kernel) rfl) (by decide +kernel) ?_
  obtain ⟨v1, hv1, h⟩ := zbind h
  obtain ⟨b2, b3, b4, hc5, hc6, hc7, hc8⟩ := ho0
  refine zV_roV (idx := 47) (rest := [.long x1]) (fs := [.ref b2, .ref b3, .ref b4]) (ci := 0) (fun Q2 hQ2 => ck_startOf s0 D cB cI cJ cD n x0 (-100000) a0 v1 hv1 ⟨b2, b3, b4, hc5, hc6, hc7, hc8⟩ hQ2) oX0_startOf (Or.inl hc5) rfl (zT_mem 718 (by decide +kernel) rfl) (zT_mem 719 (by decide +kernel) rfl) (zT_mem 720 (by decide +kernel) rfl) rfl rfl (Nat.le_of_ble_eq_true rfl) ⟨by decide, by decide⟩ (by decide +kernel) ?_
  refine zV_eq (st2 := [.long v1, .long x1]) rfl rfl rfl rfl ?_
  refine zV_blk (pc' := 8) (lo' := [(0, .ref a0), (1, .long x1)]) (st' := [.int (lg_cmp x1 v1)]) [.lcmp] (by decide +kernel) rfl ?_
  refine zV_lcmp_lt (tgt := 26) (off := 18) (by decide +kernel) (by decide) (fun q => ?_) (fun q => ?_)
  · replace h := zif_pos q h
    clear q
    refine zV_blk (pc' := 27) (lo' := [(0, .ref a0), (1, .long x1)]) (st' := [.int 0]) [.iconst 0] (by decide +kernel) rfl ?_
    obtain rfl := Option.some.inj h
    refine zV_eq (st2 := [.int (zb false)]) rfl rfl rfl rfl ?_
    exact zV_bret rfl (by decide +kernel) (hQ _ rfl)
  · replace h := zif_neg q h
    clear q
    refine zV_blk (pc' := 13) (lo' := [(0, .ref a0), (1, .long x1)]) (st' := [.ref a0, .long x1]) [.lload_n 1, .aload_n 0] (by decide +kernel) rfl ?_
    refine zV_ldc (idx := 86) (v := 100001) (zT_mem 1063 (by decide +kernel) rfl) (by decide +kernel) ?_
    obtain ⟨v9, hv9, h⟩ := zbind h
    refine zV_roV (idx := 47) (rest := [.long x1]) (fs := [.ref b2, .ref b3, .ref b4]) (ci := 0) (fun Q2 hQ2 => ck_startOf s0 D cB cI cJ cD n x0 100001 a0 v9 hv9 ⟨b2, b3, b4, hc5, hc6, hc7, hc8⟩ hQ2) oX0_startOf (Or.inl hc5) rfl (zT_mem 718 (by decide +kernel) rfl) (zT_mem 719 (by decide +kernel) rfl) (zT_mem 720 (by decide +kernel) rfl) rfl rfl (Nat.le_of_ble_eq_true rfl) ⟨by decide, by decide⟩ (by decide +kernel) ?_
    refine zV_eq (st2 := [.long v9, .long x1]) rfl rfl rfl rfl ?_
    refine zV_blk (pc' := 19) (lo' := [(0, .ref a0), (1, .long x1)]) (st' := [.int (lg_cmp x1 v9)]) [.lcmp] (by decide +kernel) rfl ?_
    refine zV_lcmp_ge (tgt := 26) (off := 7) (by decide +kernel) (by decide) (fun q => ?_) (fun q => ?_)
    · replace h := zif_pos q h
      clear q
      refine zV_blk (pc' := 27) (lo' := [(0, .ref a0), (1, .long x1)]) (st' := [.int 0]) [.iconst 0] (by decide +kernel) rfl ?_
      obtain rfl := Option.some.inj h
      refine zV_eq (st2 := [.int (zb false)]) rfl rfl rfl rfl ?_
      exact zV_bret rfl (by decide +kernel) (hQ _ rfl)
    · replace h := zif_neg q h
      clear q
      refine zV_blk (pc' := 23) (lo' := [(0, .ref a0), (1, .long x1)]) (st' := [.int 1]) [.iconst 1] (by decide +kernel) rfl ?_
      refine zV_goto (tgt := 27) (off := 4) (by decide +kernel) (by decide) ?_
      obtain rfl := Option.some.inj h
      refine zV_eq (st2 := [.int (zb true)]) rfl rfl rfl rfl ?_
      exact zV_bret rfl (by decide +kernel) (hQ _ rfl)

def k_yearOf_39 (n : Nat) (x0 : vDes) (x1 : Int64) (x3 : Int32) (x4 : Int32) : Option ((Int32 × Int32) ⊕ (Int32)) := some (.inl (x3, (x4 / 2)))
set_option maxHeartbeats 4000000 in
set_option maxRecDepth 100000 in
theorem ck_yearOf_39 (s0 : State) (D : va_G) (cB cI cJ cD : ClassId) (n : Nat) (x0 : vDes) (x1 : Int64) (x3 : Int32) (x4 : Int32) (a0 : Nat) {x : (Int32 × Int32) ⊕ (Int32)} {hi hm : zHp} {nx : Nat} {Q : Option Value → zHp → zHp → Nat → Prop} (ho0 : iDes cI hi a0 x0) (h : k_yearOf_39 n x0 x1 x3 x4 = some x) (hL7 : ∀ s : Int32 × Int32, x = (.inl s) → zV s0 D (zty cB cI cJ cD) yX0_yearOf cX0_yearOf 5 (some .int) 3 67 0 0 7 [(0, .ref a0), (1, .long x1), (3, .int s.1), (4, .int s.2)] [] hi hm nx Q) (hQ : ∀ r : Int32, x = (.inr r) → Q (some (.int r)) hi hm nx) : zV s0 D (zty cB cI cJ cD) yX0_yearOf cX0_yearOf 5 (some .int) 3 67 0 0 39 [(0, .ref a0), (1, .long x1), (3, .int x3), (4, .int x4)] [] hi hm nx Q := by
  unfold k_yearOf_39 at h
  refine zV_blk (pc' := 42) (lo' := [(0, .ref a0), (1, .long x1), (3, .int x3), (4, .int x4)]) (st' := [.int 2, .int x4]) [.iload 4, .iconst 2] (by decide +kernel) rfl ?_
  refine zV_idiv (by decide +kernel) (by decide +kernel) ?_
  refine zV_blk (pc' := 45) (lo' := [(4, .int (x4 / 2)), (0, .ref a0), (1, .long x1), (3, .int x3)]) (st' := []) [.istore 4] (by decide +kernel) rfl ?_
  refine zV_goto (tgt := 7) (off := -38) (by decide +kernel) (by decide) ?_
  obtain rfl := Option.some.inj h
  refine zV_pick (lo2 := [(0, .ref a0), (1, .long x1), (3, .int x3), (4, .int (x4 / 2))]) [1, 2, 3, 0] rfl ?_
  exact hL7 _ rfl
def k_yearOf_7 (n : Nat) (x0 : vDes) (x1 : Int64) (s : Int32 × Int32) : Option ((Int32 × Int32) ⊕ (Int32)) := (if (s.2 : Int32) ≤ (0 : Int32) then some (.inr s.1) else (if (100000 : Int32) < ((s.1 + s.2) : Int32) then (k_yearOf_39 n x0 x1 s.1 s.2 ) else (k_startOf n x0 (s.1 + s.2)).bind (fun v1 => (if (x1 : Int64) < (v1 : Int64) then (k_yearOf_39 n x0 x1 s.1 s.2 ) else (k_yearOf_39 n x0 x1 (s.1 + s.2) s.2 )))))
set_option maxHeartbeats 4000000 in
set_option maxRecDepth 100000 in
theorem ck_yearOf_7 (s0 : State) (D : va_G) (cB cI cJ cD : ClassId) (n : Nat) (x0 : vDes) (x1 : Int64) (a0 : Nat) (s : Int32 × Int32) {x : (Int32 × Int32) ⊕ (Int32)} {hi hm : zHp} {nx : Nat} {Q : Option Value → zHp → zHp → Nat → Prop} (ho0 : iDes cI hi a0 x0) (h : k_yearOf_7 n x0 x1 s = some x) (hL7 : ∀ s : Int32 × Int32, x = (.inl s) → zV s0 D (zty cB cI cJ cD) yX0_yearOf cX0_yearOf 5 (some .int) 3 67 0 0 7 [(0, .ref a0), (1, .long x1), (3, .int s.1), (4, .int s.2)] [] hi hm nx Q) (hQ : ∀ r : Int32, x = (.inr r) → Q (some (.int r)) hi hm nx) : zV s0 D (zty cB cI cJ cD) yX0_yearOf cX0_yearOf 5 (some .int) 3 67 0 0 7 [(0, .ref a0), (1, .long x1), (3, .int s.1), (4, .int s.2)] [] hi hm nx Q := by
  unfold k_yearOf_7 at h
  refine zV_blk (pc' := 9) (lo' := [(0, .ref a0), (1, .long x1), (3, .int s.1), (4, .int s.2)]) (st' := [.int s.2]) [.iload 4] (by decide +kernel) rfl ?_
  refine zV_if_le (tgt := 48) (off := 39) (by decide +kernel) (by decide) (fun q => ?_) (fun q => ?_)
  · replace h := zif_pos q h
    clear q
    refine zV_blk (pc' := 49) (lo' := [(0, .ref a0), (1, .long x1), (3, .int s.1), (4, .int s.2)]) (st' := [.int s.1]) [.iload_n 3] (by decide +kernel) rfl ?_
    obtain rfl := Option.some.inj h
    exact zV_iret rfl (by decide +kernel) (hQ _ rfl)
  · replace h := zif_neg q h
    clear q
    refine zV_blk (pc' := 16) (lo' := [(0, .ref a0), (1, .long x1), (3, .int s.1), (4, .int s.2)]) (st' := [.int (s.1 + s.2)]) [.iload_n 3, .iload 4, .iadd] (by decide +kernel) rfl ?_
    refine zV_ldc (idx := 88) (v := 100000) (zT_mem 1070 (by decide +kernel) rfl) (by decide +kernel) ?_
    refine zV_icmp_gt (tgt := 39) (off := 21) (by decide +kernel) (by decide) (fun q => ?_) (fun q => ?_)
    · replace h := zif_pos q h
      clear q
      refine zV_pick (lo2 := [(0, .ref a0), (1, .long x1), (3, .int s.1), (4, .int s.2)]) [0, 1, 2, 3] rfl ?_
      exact ck_yearOf_39 s0 D cB cI cJ cD n x0 x1 s.1 s.2  a0 ho0 h hL7 hQ
    · replace h := zif_neg q h
      clear q
      refine zV_blk (pc' := 26) (lo' := [(0, .ref a0), (1, .long x1), (3, .int s.1), (4, .int s.2)]) (st' := [.int (s.1 + s.2), .ref a0]) [.aload_n 0, .iload_n 3, .iload 4, .iadd] (by decide +kernel) rfl ?_
      obtain ⟨v1, hv1, h⟩ := zbind h
      obtain ⟨b2, b3, b4, hc5, hc6, hc7, hc8⟩ := ho0
      refine zV_roV (idx := 47) (rest := []) (fs := [.ref b2, .ref b3, .ref b4]) (ci := 0) (fun Q2 hQ2 => ck_startOf s0 D cB cI cJ cD n x0 (s.1 + s.2) a0 v1 hv1 ⟨b2, b3, b4, hc5, hc6, hc7, hc8⟩ hQ2) oX0_startOf (Or.inl hc5) rfl (zT_mem 718 (by decide +kernel) rfl) (zT_mem 719 (by decide +kernel) rfl) (zT_mem 720 (by decide +kernel) rfl) rfl rfl (Nat.le_of_ble_eq_true rfl) ⟨by decide, by decide⟩ (by decide +kernel) ?_
      refine zV_eq (st2 := [.long v1]) rfl rfl rfl rfl ?_
      refine zV_blk (pc' := 31) (lo' := [(0, .ref a0), (1, .long x1), (3, .int s.1), (4, .int s.2)]) (st' := [.int (lg_cmp v1 x1)]) [.lload_n 1, .lcmp] (by decide +kernel) rfl ?_
      refine zV_lcmp_gt (tgt := 39) (off := 8) (by decide +kernel) (by decide) (fun q => ?_) (fun q => ?_)
      · replace h := zif_pos q h
        clear q
        refine zV_pick (lo2 := [(0, .ref a0), (1, .long x1), (3, .int s.1), (4, .int s.2)]) [0, 1, 2, 3] rfl ?_
        exact ck_yearOf_39 s0 D cB cI cJ cD n x0 x1 s.1 s.2  a0 ⟨b2, b3, b4, hc5, hc6, hc7, hc8⟩ h hL7 hQ
      · replace h := zif_neg q h
        clear q
        refine zV_blk (pc' := 39) (lo' := [(3, .int (s.1 + s.2)), (0, .ref a0), (1, .long x1), (4, .int s.2)]) (st' := []) [.iload_n 3, .iload 4, .iadd, .istore_n 3] (by decide +kernel) rfl ?_
        refine zV_pick (lo2 := [(0, .ref a0), (1, .long x1), (3, .int (s.1 + s.2)), (4, .int s.2)]) [1, 2, 0, 3] rfl ?_
        exact ck_yearOf_39 s0 D cB cI cJ cD n x0 x1 (s.1 + s.2) s.2  a0 ⟨b2, b3, b4, hc5, hc6, hc7, hc8⟩ h hL7 hQ
theorem ck_yearOf_7L (s0 : State) (D : va_G) (cB cI cJ cD : ClassId) (n : Nat) (x0 : vDes) (x1 : Int64) (a0 : Nat) : ∀ (k : Nat) (s : Int32 × Int32) {hi hm : zHp} {nx : Nat} {Q : Option Value → zHp → zHp → Nat → Prop} (ho0 : iDes cI hi a0 x0) {x : Int32} (_ : zloop (k_yearOf_7 n x0 x1) k s = some x) (hQ : ∀ r : Int32, x = r → Q (some (.int r)) hi hm nx), zV s0 D (zty cB cI cJ cD) yX0_yearOf cX0_yearOf 5 (some .int) 3 67 0 0 7 [(0, .ref a0), (1, .long x1), (3, .int s.1), (4, .int s.2)] [] hi hm nx Q
  | 0, s, _, _, _, _, _, _, h, _ => by cases h
  | k + 1, s, hi, hm, nx, Q, ho0, x, h, hQ => by
    obtain ⟨z, hz, h1, h2⟩ := zloop_succ h
    exact ck_yearOf_7 s0 D cB cI cJ cD n x0 x1 a0 s ho0 hz (fun s' hs => ck_yearOf_7L s0 D cB cI cJ cD n x0 x1 a0 k s' ho0 (h1 s' hs) hQ) (fun r hr => hQ r (h2 _ hr).symm)
def k_yearOf (n : Nat) (x0 : vDes) (x1 : Int64) : Option (Int32) := (zloop (k_yearOf_7 n x0 x1) n ((-100000), 131072))
theorem oX0_yearOf : zO yX0_yearOf cX0_yearOf 5 (some .int) 1 := ⟨zT_mem 1068 (by decide +kernel) rfl, zT_mem 105 (by decide +kernel) rfl, by decide +kernel, by decide +kernel, by decide +kernel⟩
set_option maxHeartbeats 4000000 in
set_option maxRecDepth 100000 in
theorem ck_yearOf (s0 : State) (D : va_G) (cB cI cJ cD : ClassId) (n : Nat) (x0 : vDes) (x1 : Int64) (a0 : Nat) (x : Int32) (h : k_yearOf n x0 x1 = some x) {hi hm : zHp} {nx : Nat} {Q : Option Value → zHp → zHp → Nat → Prop} (ho0 : iDes cI hi a0 x0) (hQ0 : Q (some (.int x)) hi hm nx) : zM s0 D (zty cB cI cJ cD) yX0_yearOf cX0_yearOf 5 (some .int) 3 67 0 0 [.ref a0, .long x1] hi hm nx Q := by
  have hQ : ∀ r : Int32, x = r → Q (some (.int r)) hi hm nx := fun r hr => by subst hr; exact hQ0
  clear hQ0
  refine zM_of (by decide +kernel) (Nat.le_of_ble_eq_true rfl) ?_
  unfold k_yearOf at h
  refine zV_eq (lo2 := [(0, .ref a0), (1, .long x1)]) rfl rfl rfl rfl ?_
  refine zV_ldc (idx := 85) (v := (-100000)) (zT_mem 1062 (by decide +kernel) rfl) (by decide +kernel) ?_
  refine zV_blk (pc' := 3) (lo' := [(3, .int (-100000)), (0, .ref a0), (1, .long x1)]) (st' := []) [.istore_n 3] (by decide +kernel) rfl ?_
  refine zV_ldc (idx := 87) (v := 131072) (zT_mem 1069 (by decide +kernel) rfl) (by decide +kernel) ?_
  refine zV_blk (pc' := 7) (lo' := [(4, .int 131072), (3, .int (-100000)), (0, .ref a0), (1, .long x1)]) (st' := []) [.istore 4] (by decide +kernel) rfl ?_
  refine zV_pick (lo2 := [(0, .ref a0), (1, .long x1), (3, .int (-100000)), (4, .int 131072)]) [2, 3, 1, 0] rfl ?_
  exact ck_yearOf_7L s0 D cB cI cJ cD n x0 x1 a0 n ((-100000), 131072) ho0 h hQ

def k_numberOf (n : Nat) (x0 : vDes) (x1 : Int32) (x2 : Int32) (x3 : Int32) : Option (Int64) := (k_isYear x1).bind (fun v1 => (if v1 = true then (k_hasMonth x0.1 x2).bind (fun v9 => (if v9 = true then (if (0 : Int32) ≤ (x3 : Int32) then (d_isLeap n x0.2.1 x1).bind (fun v13 => (k_monthDays x0.1 x2 (zb v13)).bind (fun v14 => (if (x3 : Int32) < (v14 : Int32) then (k_startOf n x0 x1).bind (fun v15 => (k_monthOffset n x0.1 x2 (zb v13)).bind (fun v16 => some ((v15 + (v16 : Int32).toInt64) + (x3 : Int32).toInt64))) else some (-1000000000000000)))) else some (-1000000000000000)) else some (-1000000000000000))) else some (-1000000000000000)))
theorem oX0_numberOf : zO yX0_numberOf cX0_numberOf 5 (some .long) 3 := ⟨zT_mem 1094 (by decide +kernel) rfl, zT_mem 105 (by decide +kernel) rfl, by decide +kernel, by decide +kernel, by decide +kernel⟩
set_option maxHeartbeats 4000000 in
set_option maxRecDepth 100000 in
theorem ck_numberOf (s0 : State) (D : va_G) (cB cI cJ cD : ClassId) (n : Nat) (x0 : vDes) (x1 : Int32) (x2 : Int32) (x3 : Int32) (a0 : Nat) (x : Int64) (h : k_numberOf n x0 x1 x2 x3 = some x) {hi hm : zHp} {nx : Nat} {Q : Option Value → zHp → zHp → Nat → Prop} (ho0 : iDes cI hi a0 x0) (hQ0 : Q (some (.long x)) hi hm nx) : zM s0 D (zty cB cI cJ cD) yX0_numberOf cX0_numberOf 5 (some .long) 3 67 0 0 [.ref a0, .int x1, .int x2, .int x3] hi hm nx Q := by
  have hQ : ∀ r : Int64, x = r → Q (some (.long r)) hi hm nx := fun r hr => by subst hr; exact hQ0
  clear hQ0
  refine zM_of (by decide +kernel) (Nat.le_of_ble_eq_true rfl) ?_
  unfold k_numberOf at h
  refine zV_eq (lo2 := [(0, .ref a0), (1, .int x1), (2, .int x2), (3, .int x3)]) rfl rfl rfl rfl ?_
  refine zV_blk (pc' := 1) (lo' := [(0, .ref a0), (1, .int x1), (2, .int x2), (3, .int x3)]) (st' := [.int x1]) [.iload_n 1] (by decide +kernel) rfl ?_
  obtain ⟨v1, hv1, h⟩ := zbind h
  refine zV_roSN (host := "LeapDesigner") (idx := 89) (rest := []) (fun Q2 hQ2 => ck_isYear s0 D cB cI cJ cD x1  v1 hv1  hQ2) oX11_isYear (List.mem_of_getElem? (i := 1095) (by decide +kernel)) (zT_mem 1010 (by decide +kernel) rfl) rfl rfl (Nat.le_of_ble_eq_true rfl) ⟨by decide, by decide⟩ (by decide +kernel) ?_
  refine zV_eq (st2 := [.int (zb v1)]) rfl rfl rfl rfl ?_
  refine zV_bif_eq (tgt := 22) (off := 18) (by decide +kernel) (by decide) (fun q => ?_) (fun q => ?_)
  · replace h := zif_neg q h
    clear q
    refine zV_ldc2 (idx := 95) (v := (-1000000000000000)) (zT_mem 1064 (by decide +kernel) rfl) (by decide +kernel) ?_
    obtain rfl := Option.some.inj h
    exact zV_lret rfl (by decide +kernel) (hQ _ rfl)
  · replace h := zif_pos q h
    clear q
    refine zV_blk (pc' := 8) (lo' := [(0, .ref a0), (1, .int x1), (2, .int x2), (3, .int x3)]) (st' := [.ref a0]) [.aload_n 0] (by decide +kernel) rfl ?_
    obtain ⟨b2, b3, b4, hc5, hc6, hc7, hc8⟩ := ho0
    refine zV_get (ci := 0) (idx := 9) (k := 0) (N := 3) (fs := [.ref b2, .ref b3, .ref b4]) (v := .ref b2) (Or.inl hc5) rfl z_in0 (by decide) (zT_mem 563 (by decide +kernel) rfl) rfl (by decide +kernel) ?_
    refine zV_blk (pc' := 12) (lo' := [(0, .ref a0), (1, .int x1), (2, .int x2), (3, .int x3)]) (st' := [.int x2, .ref b2]) [.iload_n 2] (by decide +kernel) rfl ?_
    obtain ⟨v9, hv9, h⟩ := zbind h
    obtain ⟨b10, hc11, hb12⟩ := hc6
    refine zV_roV (idx := 92) (rest := []) (fs := [.int x0.1.1, .int x0.1.2.1, .ref b10, .int x0.1.2.2.2.1, .int x0.1.2.2.2.2.1, .int x0.1.2.2.2.2.2]) (ci := 3) (fun Q2 hQ2 => ck_hasMonth s0 D cB cI cJ cD x0.1 x2 b2 v9 hv9 ⟨b10, hc11, hb12⟩ hQ2) oX3_hasMonth (Or.inl hc11) rfl (zT_mem 1096 (by decide +kernel) rfl) (zT_mem 669 (by decide +kernel) rfl) (zT_mem 670 (by decide +kernel) rfl) rfl rfl (Nat.le_of_ble_eq_true rfl) ⟨by decide, by decide⟩ (by decide +kernel) ?_
    refine zV_eq (st2 := [.int (zb v9)]) rfl rfl rfl rfl ?_
    refine zV_bif_eq (tgt := 22) (off := 7) (by decide +kernel) (by decide) (fun q => ?_) (fun q => ?_)
    · replace h := zif_neg q h
      clear q
      refine zV_ldc2 (idx := 95) (v := (-1000000000000000)) (zT_mem 1064 (by decide +kernel) rfl) (by decide +kernel) ?_
      obtain rfl := Option.some.inj h
      exact zV_lret rfl (by decide +kernel) (hQ _ rfl)
    · replace h := zif_pos q h
      clear q
      refine zV_blk (pc' := 19) (lo' := [(0, .ref a0), (1, .int x1), (2, .int x2), (3, .int x3)]) (st' := [.int x3]) [.iload_n 3] (by decide +kernel) rfl ?_
      refine zV_if_ge (tgt := 26) (off := 7) (by decide +kernel) (by decide) (fun q => ?_) (fun q => ?_)
      · replace h := zif_pos q h
        clear q
        refine zV_blk (pc' := 27) (lo' := [(0, .ref a0), (1, .int x1), (2, .int x2), (3, .int x3)]) (st' := [.ref a0]) [.aload_n 0] (by decide +kernel) rfl ?_
        refine zV_get (ci := 0) (idx := 15) (k := 1) (N := 3) (fs := [.ref b2, .ref b3, .ref b4]) (v := .ref b3) (Or.inl hc5) rfl z_in0 (by decide) (zT_mem 565 (by decide +kernel) rfl) rfl (by decide +kernel) ?_
        refine zV_blk (pc' := 31) (lo' := [(0, .ref a0), (1, .int x1), (2, .int x2), (3, .int x3)]) (st' := [.int x1, .ref b3]) [.iload_n 1] (by decide +kernel) rfl ?_
        obtain ⟨v13, hv13, h⟩ := zbind h
        refine dc_isLeap s0 D cB cI cJ cD (idx := 70) n x0.2.1 x1 b3 v13 hv13 hc7 (zT_mem 1045 (by decide +kernel) rfl) (rest := []) rfl (Nat.le_of_ble_eq_true rfl) ⟨by decide, by decide⟩ (by decide +kernel) ?_
        refine zV_eq (st2 := [.int (zb v13)]) rfl rfl rfl rfl ?_
        refine zV_blk (pc' := 38) (lo' := [(4, .int (zb v13)), (0, .ref a0), (1, .int x1), (2, .int x2), (3, .int x3)]) (st' := [.ref a0, .int x3]) [.istore 4, .iload_n 3, .aload_n 0] (by decide +kernel) rfl ?_
        refine zV_get (ci := 0) (idx := 9) (k := 0) (N := 3) (fs := [.ref b2, .ref b3, .ref b4]) (v := .ref b2) (Or.inl hc5) rfl z_in0 (by decide) (zT_mem 563 (by decide +kernel) rfl) rfl (by decide +kernel) ?_
        refine zV_blk (pc' := 44) (lo' := [(4, .int (zb v13)), (0, .ref a0), (1, .int x1), (2, .int x2), (3, .int x3)]) (st' := [.int (zb v13), .int x2, .ref b2, .int x3]) [.iload_n 2, .iload 4] (by decide +kernel) rfl ?_
        obtain ⟨v14, hv14, h⟩ := zbind h
        refine zV_roV (idx := 97) (rest := [.int x3]) (fs := [.int x0.1.1, .int x0.1.2.1, .ref b10, .int x0.1.2.2.2.1, .int x0.1.2.2.2.2.1, .int x0.1.2.2.2.2.2]) (ci := 3) (fun Q2 hQ2 => ck_monthDays s0 D cB cI cJ cD x0.1 x2 (zb v13) b2 v14 hv14 ⟨b10, hc11, hb12⟩ hQ2) oX3_monthDays (Or.inl hc11) rfl (zT_mem 1097 (by decide +kernel) rfl) (zT_mem 673 (by decide +kernel) rfl) (zT_mem 674 (by decide +kernel) rfl) rfl rfl (Nat.le_of_ble_eq_true rfl) ⟨by decide, by decide⟩ (by decide +kernel) ?_
        refine zV_eq (st2 := [.int v14, .int x3]) rfl rfl rfl rfl ?_
        refine zV_icmp_lt (tgt := 54) (off := 7) (by decide +kernel) (by decide) (fun q => ?_) (fun q => ?_)
        · replace h := zif_pos q h
          clear q
          refine zV_blk (pc' := 56) (lo' := [(4, .int (zb v13)), (0, .ref a0), (1, .int x1), (2, .int x2), (3, .int x3)]) (st' := [.int x1, .ref a0]) [.aload_n 0, .iload_n 1] (by decide +kernel) rfl ?_
          obtain ⟨v15, hv15, h⟩ := zbind h
          refine zV_roV (idx := 47) (rest := []) (fs := [.ref b2, .ref b3, .ref b4]) (ci := 0) (fun Q2 hQ2 => ck_startOf s0 D cB cI cJ cD n x0 x1 a0 v15 hv15 ⟨b2, b3, b4, hc5, ⟨b10, hc11, hb12⟩, hc7, hc8⟩ hQ2) oX0_startOf (Or.inl hc5) rfl (zT_mem 718 (by decide +kernel) rfl) (zT_mem 719 (by decide +kernel) rfl) (zT_mem 720 (by decide +kernel) rfl) rfl rfl (Nat.le_of_ble_eq_true rfl) ⟨by decide, by decide⟩ (by decide +kernel) ?_
          refine zV_eq (st2 := [.long v15]) rfl rfl rfl rfl ?_
          refine zV_blk (pc' := 60) (lo' := [(4, .int (zb v13)), (0, .ref a0), (1, .int x1), (2, .int x2), (3, .int x3)]) (st' := [.ref a0, .long v15]) [.aload_n 0] (by decide +kernel) rfl ?_
          refine zV_get (ci := 0) (idx := 9) (k := 0) (N := 3) (fs := [.ref b2, .ref b3, .ref b4]) (v := .ref b2) (Or.inl hc5) rfl z_in0 (by decide) (zT_mem 563 (by decide +kernel) rfl) rfl (by decide +kernel) ?_
          refine zV_blk (pc' := 66) (lo' := [(4, .int (zb v13)), (0, .ref a0), (1, .int x1), (2, .int x2), (3, .int x3)]) (st' := [.int (zb v13), .int x2, .ref b2, .long v15]) [.iload_n 2, .iload 4] (by decide +kernel) rfl ?_
          obtain ⟨v16, hv16, h⟩ := zbind h
          refine zV_roV (idx := 101) (rest := [.long v15]) (fs := [.int x0.1.1, .int x0.1.2.1, .ref b10, .int x0.1.2.2.2.1, .int x0.1.2.2.2.2.1, .int x0.1.2.2.2.2.2]) (ci := 3) (fun Q2 hQ2 => ck_monthOffset s0 D cB cI cJ cD n x0.1 x2 (zb v13) b2 v16 hv16 ⟨b10, hc11, hb12⟩ hQ2) oX3_monthOffset (Or.inl hc11) rfl (zT_mem 1076 (by decide +kernel) rfl) (zT_mem 1077 (by decide +kernel) rfl) (zT_mem 1078 (by decide +kernel) rfl) rfl rfl (Nat.le_of_ble_eq_true rfl) ⟨by decide, by decide⟩ (by decide +kernel) ?_
          refine zV_eq (st2 := [.int v16, .long v15]) rfl rfl rfl rfl ?_
          refine zV_blk (pc' := 74) (lo' := [(4, .int (zb v13)), (0, .ref a0), (1, .int x1), (2, .int x2), (3, .int x3)]) (st' := [.long ((v15 + (v16 : Int32).toInt64) + (x3 : Int32).toInt64)]) [.i2l, .ladd, .iload_n 3, .i2l, .ladd] (by decide +kernel) rfl ?_
          obtain rfl := Option.some.inj h
          exact zV_lret rfl (by decide +kernel) (hQ _ rfl)
        · replace h := zif_neg q h
          clear q
          refine zV_ldc2 (idx := 95) (v := (-1000000000000000)) (zT_mem 1064 (by decide +kernel) rfl) (by decide +kernel) ?_
          obtain rfl := Option.some.inj h
          exact zV_lret rfl (by decide +kernel) (hQ _ rfl)
      · replace h := zif_neg q h
        clear q
        refine zV_ldc2 (idx := 95) (v := (-1000000000000000)) (zT_mem 1064 (by decide +kernel) rfl) (by decide +kernel) ?_
        obtain rfl := Option.some.inj h
        exact zV_lret rfl (by decide +kernel) (hQ _ rfl)

