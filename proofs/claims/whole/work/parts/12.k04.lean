def k_leapsBefore_Ladder_55 (n : Nat) (x0 : vArr) (x1 : Int32) (x3 : Int32) (t0 : Int32) (t1 : Int32) : Option ((Int32 × Int32) ⊕ (Int32)) := some (.inl ((t0 + t1), (x3 + 1)))
set_option maxHeartbeats 4000000 in
set_option maxRecDepth 100000 in
theorem ck_leapsBefore_Ladder_55 (s0 : State) (D : va_G) (cB cI cJ cD : ClassId) (n : Nat) (x0 : vArr) (x1 : Int32) (x3 : Int32) (t0 : Int32) (t1 : Int32) (a0 : Nat) {x : (Int32 × Int32) ⊕ (Int32)} {hi hm : zHp} {nx : Nat} {Q : Option Value → zHp → zHp → Nat → Prop} (ho0 : iLadder cI hi a0 x0) (h : k_leapsBefore_Ladder_55 n x0 x1 x3 t0 t1 = some x) (hL4 : ∀ s : Int32 × Int32, x = (.inl s) → zV s0 D (zty cB cI cJ cD) yX5_leapsBefore cX5_leapsBefore 5 (some .int) 1 22 0 0 4 [(0, .ref a0), (1, .int x1), (2, .int s.1), (3, .int s.2)] [] hi hm nx Q) (hQ : ∀ r : Int32, x = (.inr r) → Q (some (.int r)) hi hm nx) : zV s0 D (zty cB cI cJ cD) yX5_leapsBefore cX5_leapsBefore 5 (some .int) 1 22 0 0 55 [(0, .ref a0), (1, .int x1), (3, .int x3)] [.int t1, .int t0] hi hm nx Q := by
  unfold k_leapsBefore_Ladder_55 at h
  refine zV_blk (pc' := 60) (lo' := [(3, .int (x3 + 1)), (2, .int (t0 + t1)), (0, .ref a0), (1, .int x1)]) (st' := []) [.iadd, .istore_n 2, .iinc 3 1] (by decide +kernel) rfl ?_
  refine zV_goto (tgt := 4) (off := -56) (by decide +kernel) (by decide) ?_
  obtain rfl := Option.some.inj h
  refine zV_pick (lo2 := [(0, .ref a0), (1, .int x1), (2, .int (t0 + t1)), (3, .int (x3 + 1))]) [2, 3, 1, 0] rfl ?_
  exact hL4 _ rfl
def k_leapsBefore_Ladder_38 (n : Nat) (x0 : vArr) (x1 : Int32) (x2 : Int32) (x3 : Int32) (t0 : Int32) : Option ((Int32 × Int32) ⊕ (Int32)) := (if ((x3 - x3 / 2 * 2) : Int32) = (0 : Int32) then (k_leapsBefore_Ladder_55 n x0 x1 x3 x2 t0) else (k_leapsBefore_Ladder_55 n x0 x1 x3 x2 (-t0)))
set_option maxHeartbeats 4000000 in
set_option maxRecDepth 100000 in
theorem ck_leapsBefore_Ladder_38 (s0 : State) (D : va_G) (cB cI cJ cD : ClassId) (n : Nat) (x0 : vArr) (x1 : Int32) (x2 : Int32) (x3 : Int32) (t0 : Int32) (a0 : Nat) {x : (Int32 × Int32) ⊕ (Int32)} {hi hm : zHp} {nx : Nat} {Q : Option Value → zHp → zHp → Nat → Prop} (ho0 : iLadder cI hi a0 x0) (h : k_leapsBefore_Ladder_38 n x0 x1 x2 x3 t0 = some x) (hL4 : ∀ s : Int32 × Int32, x = (.inl s) → zV s0 D (zty cB cI cJ cD) yX5_leapsBefore cX5_leapsBefore 5 (some .int) 1 22 0 0 4 [(0, .ref a0), (1, .int x1), (2, .int s.1), (3, .int s.2)] [] hi hm nx Q) (hQ : ∀ r : Int32, x = (.inr r) → Q (some (.int r)) hi hm nx) : zV s0 D (zty cB cI cJ cD) yX5_leapsBefore cX5_leapsBefore 5 (some .int) 1 22 0 0 38 [(0, .ref a0), (1, .int x1), (2, .int x2), (3, .int x3)] [.int t0] hi hm nx Q := by
  unfold k_leapsBefore_Ladder_38 at h
  refine zV_blk (pc' := 43) (lo' := [(4, .int t0), (0, .ref a0), (1, .int x1), (2, .int x2), (3, .int x3)]) (st' := [.int 2, .int x3, .int x2]) [.istore 4, .iload_n 2, .iload_n 3, .iconst 2] (by decide +kernel) rfl ?_
  refine zV_irem (by decide +kernel) (by decide +kernel) ?_
  refine zV_if_ne (tgt := 52) (off := 8) (by decide +kernel) (by decide) (fun q => ?_) (fun q => ?_)
  · replace h := zif_neg q h
    clear q
    refine zV_blk (pc' := 55) (lo' := [(4, .int t0), (0, .ref a0), (1, .int x1), (2, .int x2), (3, .int x3)]) (st' := [.int (-t0), .int x2]) [.iload 4, .ineg] (by decide +kernel) rfl ?_
    refine zV_pick (lo2 := [(0, .ref a0), (1, .int x1), (3, .int x3)]) [1, 2, 4] rfl ?_
    exact ck_leapsBefore_Ladder_55 s0 D cB cI cJ cD n x0 x1 x3 x2 (-t0) a0 ho0 h hL4 hQ
  · replace h := zif_pos q h
    clear q
    refine zV_blk (pc' := 49) (lo' := [(4, .int t0), (0, .ref a0), (1, .int x1), (2, .int x2), (3, .int x3)]) (st' := [.int t0, .int x2]) [.iload 4] (by decide +kernel) rfl ?_
    refine zV_goto (tgt := 55) (off := 6) (by decide +kernel) (by decide) ?_
    refine zV_pick (lo2 := [(0, .ref a0), (1, .int x1), (3, .int x3)]) [1, 2, 4] rfl ?_
    exact ck_leapsBefore_Ladder_55 s0 D cB cI cJ cD n x0 x1 x3 x2 t0 a0 ho0 h hL4 hQ
def k_leapsBefore_Ladder_4 (n : Nat) (x0 : vArr) (x1 : Int32) (s : Int32 × Int32) : Option ((Int32 × Int32) ⊕ (Int32)) := (if ((nI x0.1) : Int32) ≤ (s.2 : Int32) then some (.inr s.1) else zck (zin (s.2) x0.1) ((if ((x0.2 (s.2 : Int32).toNatClampNeg) : Int32) ≤ (0 : Int32) then (k_leapsBefore_Ladder_38 n x0 x1 s.1 s.2 0) else zck (zin (s.2) x0.1) ((j_fdivI (-x1) (x0.2 (s.2 : Int32).toNatClampNeg)).bind (fun v4 => (k_leapsBefore_Ladder_38 n x0 x1 s.1 s.2 (-v4)))))))
set_option maxHeartbeats 4000000 in
set_option maxRecDepth 100000 in
theorem ck_leapsBefore_Ladder_4 (s0 : State) (D : va_G) (cB cI cJ cD : ClassId) (n : Nat) (x0 : vArr) (x1 : Int32) (a0 : Nat) (s : Int32 × Int32) {x : (Int32 × Int32) ⊕ (Int32)} {hi hm : zHp} {nx : Nat} {Q : Option Value → zHp → zHp → Nat → Prop} (ho0 : iLadder cI hi a0 x0) (h : k_leapsBefore_Ladder_4 n x0 x1 s = some x) (hL4 : ∀ s : Int32 × Int32, x = (.inl s) → zV s0 D (zty cB cI cJ cD) yX5_leapsBefore cX5_leapsBefore 5 (some .int) 1 22 0 0 4 [(0, .ref a0), (1, .int x1), (2, .int s.1), (3, .int s.2)] [] hi hm nx Q) (hQ : ∀ r : Int32, x = (.inr r) → Q (some (.int r)) hi hm nx) : zV s0 D (zty cB cI cJ cD) yX5_leapsBefore cX5_leapsBefore 5 (some .int) 1 22 0 0 4 [(0, .ref a0), (1, .int x1), (2, .int s.1), (3, .int s.2)] [] hi hm nx Q := by
  unfold k_leapsBefore_Ladder_4 at h
  refine zV_blk (pc' := 6) (lo' := [(0, .ref a0), (1, .int x1), (2, .int s.1), (3, .int s.2)]) (st' := [.ref a0, .int s.2]) [.iload_n 3, .aload_n 0] (by decide +kernel) rfl ?_
  obtain ⟨b1, hc2, hb3⟩ := ho0
  refine zV_get (ci := 5) (idx := 7) (k := 0) (N := 1) (fs := [.ref b1]) (v := .ref b1) (Or.inl hc2) rfl z_in5 (by decide) (zT_mem 471 (by decide +kernel) rfl) rfl (by decide +kernel) ?_
  refine zV_alen 1 (Or.inl hb3) rfl (by decide +kernel) ?_
  refine zV_icmp_ge (tgt := 63) (off := 53) (by decide +kernel) (by decide) (fun q => ?_) (fun q => ?_)
  · replace h := zif_pos q h
    clear q
    refine zV_blk (pc' := 64) (lo' := [(0, .ref a0), (1, .int x1), (2, .int s.1), (3, .int s.2)]) (st' := [.int s.1]) [.iload_n 2] (by decide +kernel) rfl ?_
    obtain rfl := Option.some.inj h
    exact zV_iret rfl (by decide +kernel) (hQ _ rfl)
  · replace h := zif_neg q h
    clear q
    refine zV_blk (pc' := 14) (lo' := [(0, .ref a0), (1, .int x1), (2, .int s.1), (3, .int s.2)]) (st' := [.ref a0]) [.aload_n 0] (by decide +kernel) rfl ?_
    refine zV_get (ci := 5) (idx := 7) (k := 0) (N := 1) (fs := [.ref b1]) (v := .ref b1) (Or.inl hc2) rfl z_in5 (by decide) (zT_mem 471 (by decide +kernel) rfl) rfl (by decide +kernel) ?_
    refine zV_blk (pc' := 18) (lo' := [(0, .ref a0), (1, .int x1), (2, .int s.1), (3, .int s.2)]) (st' := [.int s.2, .ref b1]) [.iload_n 3] (by decide +kernel) rfl ?_
    obtain ⟨hz, h⟩ := zck_some h
    refine zV_iald 1 (Or.inl hb3) rfl (zin_in hz) (by decide +kernel) ?_
    refine zV_if_le (tgt := 37) (off := 18) (by decide +kernel) (by decide) (fun q => ?_) (fun q => ?_)
    · replace h := zif_pos q h
      clear q
      refine zV_blk (pc' := 38) (lo' := [(0, .ref a0), (1, .int x1), (2, .int s.1), (3, .int s.2)]) (st' := [.int 0]) [.iconst 0] (by decide +kernel) rfl ?_
      refine zV_pick (lo2 := [(0, .ref a0), (1, .int x1), (2, .int s.1), (3, .int s.2)]) [0, 1, 2, 3] rfl ?_
      exact ck_leapsBefore_Ladder_38 s0 D cB cI cJ cD n x0 x1 s.1 s.2 0 a0 ⟨b1, hc2, hb3⟩ h hL4 hQ
    · replace h := zif_neg q h
      clear q
      refine zV_blk (pc' := 25) (lo' := [(0, .ref a0), (1, .int x1), (2, .int s.1), (3, .int s.2)]) (st' := [.ref a0, .int (-x1)]) [.iload_n 1, .ineg, .aload_n 0] (by decide +kernel) rfl ?_
      refine zV_get (ci := 5) (idx := 7) (k := 0) (N := 1) (fs := [.ref b1]) (v := .ref b1) (Or.inl hc2) rfl z_in5 (by decide) (zT_mem 471 (by decide +kernel) rfl) rfl (by decide +kernel) ?_
      refine zV_blk (pc' := 29) (lo' := [(0, .ref a0), (1, .int x1), (2, .int s.1), (3, .int s.2)]) (st' := [.int s.2, .ref b1, .int (-x1)]) [.iload_n 3] (by decide +kernel) rfl ?_
      obtain ⟨hz, h⟩ := zck_some h
      refine zV_iald 1 (Or.inl hb3) rfl (zin_in hz) (by decide +kernel) ?_
      obtain ⟨v4, hv4, h⟩ := zbind h
      refine zV_roS (idx := 13) (rest := []) (fun Q2 hQ2 => cj_fdivI s0 D cB cI cJ cD (-x1) (x0.2 (s.2 : Int32).toNatClampNeg)  v4 hv4  hQ2) oJ9_floorDiv_7cf53 (zT_mem 643 (by decide +kernel) rfl) (zT_mem 638 (by decide +kernel) rfl) rfl rfl (Nat.le_of_ble_eq_true rfl) ⟨by decide, by decide⟩ (by decide +kernel) ?_
      refine zV_eq (st2 := [.int v4]) rfl rfl rfl rfl ?_
      refine zV_blk (pc' := 34) (lo' := [(0, .ref a0), (1, .int x1), (2, .int s.1), (3, .int s.2)]) (st' := [.int (-v4)]) [.ineg] (by decide +kernel) rfl ?_
      refine zV_goto (tgt := 38) (off := 4) (by decide +kernel) (by decide) ?_
      refine zV_pick (lo2 := [(0, .ref a0), (1, .int x1), (2, .int s.1), (3, .int s.2)]) [0, 1, 2, 3] rfl ?_
      exact ck_leapsBefore_Ladder_38 s0 D cB cI cJ cD n x0 x1 s.1 s.2 (-v4) a0 ⟨b1, hc2, hb3⟩ h hL4 hQ
theorem ck_leapsBefore_Ladder_4L (s0 : State) (D : va_G) (cB cI cJ cD : ClassId) (n : Nat) (x0 : vArr) (x1 : Int32) (a0 : Nat) : ∀ (k : Nat) (s : Int32 × Int32) {hi hm : zHp} {nx : Nat} {Q : Option Value → zHp → zHp → Nat → Prop} (ho0 : iLadder cI hi a0 x0) {x : Int32} (_ : zloop (k_leapsBefore_Ladder_4 n x0 x1) k s = some x) (hQ : ∀ r : Int32, x = r → Q (some (.int r)) hi hm nx), zV s0 D (zty cB cI cJ cD) yX5_leapsBefore cX5_leapsBefore 5 (some .int) 1 22 0 0 4 [(0, .ref a0), (1, .int x1), (2, .int s.1), (3, .int s.2)] [] hi hm nx Q
  | 0, s, _, _, _, _, _, _, h, _ => by cases h
  | k + 1, s, hi, hm, nx, Q, ho0, x, h, hQ => by
    obtain ⟨z, hz, h1, h2⟩ := zloop_succ h
    exact ck_leapsBefore_Ladder_4 s0 D cB cI cJ cD n x0 x1 a0 s ho0 hz (fun s' hs => ck_leapsBefore_Ladder_4L s0 D cB cI cJ cD n x0 x1 a0 k s' ho0 (h1 s' hs) hQ) (fun r hr => hQ r (h2 _ hr).symm)
def k_leapsBefore_Ladder (n : Nat) (x0 : vArr) (x1 : Int32) : Option (Int32) := (zloop (k_leapsBefore_Ladder_4 n x0 x1) n (0, 0))
theorem oX5_leapsBefore : zO yX5_leapsBefore cX5_leapsBefore 5 (some .int) 1 := ⟨zT_mem 642 (by decide +kernel) rfl, zT_mem 103 (by decide +kernel) rfl, by decide +kernel, by decide +kernel, by decide +kernel⟩
set_option maxHeartbeats 4000000 in
set_option maxRecDepth 100000 in
theorem ck_leapsBefore_Ladder (s0 : State) (D : va_G) (cB cI cJ cD : ClassId) (n : Nat) (x0 : vArr) (x1 : Int32) (a0 : Nat) (x : Int32) (h : k_leapsBefore_Ladder n x0 x1 = some x) {hi hm : zHp} {nx : Nat} {Q : Option Value → zHp → zHp → Nat → Prop} (ho0 : iLadder cI hi a0 x0) (hQ0 : Q (some (.int x)) hi hm nx) : zM s0 D (zty cB cI cJ cD) yX5_leapsBefore cX5_leapsBefore 5 (some .int) 1 22 0 0 [.ref a0, .int x1] hi hm nx Q := by
  have hQ : ∀ r : Int32, x = r → Q (some (.int r)) hi hm nx := fun r hr => by subst hr; exact hQ0
  clear hQ0
  refine zM_of (by decide +kernel) (Nat.le_of_ble_eq_true rfl) ?_
  unfold k_leapsBefore_Ladder at h
  refine zV_eq (lo2 := [(0, .ref a0), (1, .int x1)]) rfl rfl rfl rfl ?_
  refine zV_blk (pc' := 4) (lo' := [(3, .int 0), (2, .int 0), (0, .ref a0), (1, .int x1)]) (st' := []) [.iconst 0, .istore_n 2, .iconst 0, .istore_n 3] (by decide +kernel) rfl ?_
  refine zV_pick (lo2 := [(0, .ref a0), (1, .int x1), (2, .int 0), (3, .int 0)]) [2, 3, 1, 0] rfl ?_
  exact ck_leapsBefore_Ladder_4L s0 D cB cI cJ cD n x0 x1 a0 n (0, 0) ho0 h hQ

def k_leapsBefore_Row (x0 : vRow) (x1 : Int32) : Option (Int32) := (if (1 : Int32) ≤ (x0.2 : Int32) then (j_fdivI x1 x0.2).bind (fun v4 => zck (zin (x0.2) x0.1.1) ((j_fmodI x1 x0.2).bind (fun v5 => zck (zin (v5) x0.1.1) (some ((v4 * (x0.1.2 (x0.2 : Int32).toNatClampNeg)) + (x0.1.2 (v5 : Int32).toNatClampNeg)))))) else some 0)
theorem oX8_leapsBefore : zO yX8_leapsBefore cX8_leapsBefore 2 (some .int) 1 := ⟨zT_mem 646 (by decide +kernel) rfl, zT_mem 104 (by decide +kernel) rfl, by decide +kernel, by decide +kernel, by decide +kernel⟩
set_option maxHeartbeats 4000000 in
set_option maxRecDepth 100000 in
theorem ck_leapsBefore_Row (s0 : State) (D : va_G) (cB cI cJ cD : ClassId) (x0 : vRow) (x1 : Int32) (a0 : Nat) (x : Int32) (h : k_leapsBefore_Row x0 x1 = some x) {hi hm : zHp} {nx : Nat} {Q : Option Value → zHp → zHp → Nat → Prop} (ho0 : iRow cI hi a0 x0) (hQ0 : Q (some (.int x)) hi hm nx) : zM s0 D (zty cB cI cJ cD) yX8_leapsBefore cX8_leapsBefore 2 (some .int) 1 22 0 0 [.ref a0, .int x1] hi hm nx Q := by
  have hQ : ∀ r : Int32, x = r → Q (some (.int r)) hi hm nx := fun r hr => by subst hr; exact hQ0
  clear hQ0
  refine zM_of (by decide +kernel) (Nat.le_of_ble_eq_true rfl) ?_
  unfold k_leapsBefore_Row at h
  refine zV_eq (lo2 := [(0, .ref a0), (1, .int x1)]) rfl rfl rfl rfl ?_
  refine zV_blk (pc' := 1) (lo' := [(0, .ref a0), (1, .int x1)]) (st' := [.ref a0]) [.aload_n 0] (by decide +kernel) rfl ?_
  obtain ⟨b1, hc2, hb3⟩ := ho0
  refine zV_get (ci := 8) (idx := 13) (k := 1) (N := 2) (fs := [.ref b1, .int x0.2]) (v := .int x0.2) (Or.inl hc2) rfl z_in8 (by decide) (zT_mem 487 (by decide +kernel) rfl) rfl (by decide +kernel) ?_
  refine zV_blk (pc' := 5) (lo' := [(0, .ref a0), (1, .int x1)]) (st' := [.int 1, .int x0.2]) [.iconst 1] (by decide +kernel) rfl ?_
  refine zV_icmp_ge (tgt := 10) (off := 5) (by decide +kernel) (by decide) (fun q => ?_) (fun q => ?_)
  · replace h := zif_pos q h
    clear q
    refine zV_blk (pc' := 12) (lo' := [(0, .ref a0), (1, .int x1)]) (st' := [.ref a0, .int x1]) [.iload_n 1, .aload_n 0] (by decide +kernel) rfl ?_
    refine zV_get (ci := 8) (idx := 13) (k := 1) (N := 2) (fs := [.ref b1, .int x0.2]) (v := .int x0.2) (Or.inl hc2) rfl z_in8 (by decide) (zT_mem 487 (by decide +kernel) rfl) rfl (by decide +kernel) ?_
    obtain ⟨v4, hv4, h⟩ := zbind h
    refine zV_roS (idx := 23) (rest := []) (fun Q2 hQ2 => cj_fdivI s0 D cB cI cJ cD x1 x0.2  v4 hv4  hQ2) oJ9_floorDiv_7cf53 (zT_mem 647 (by decide +kernel) rfl) (zT_mem 638 (by decide +kernel) rfl) rfl rfl (Nat.le_of_ble_eq_true rfl) ⟨by decide, by decide⟩ (by decide +kernel) ?_
    refine zV_eq (st2 := [.int v4]) rfl rfl rfl rfl ?_
    refine zV_blk (pc' := 19) (lo' := [(0, .ref a0), (1, .int x1)]) (st' := [.ref a0, .int v4]) [.aload_n 0] (by decide +kernel) rfl ?_
    refine zV_get (ci := 8) (idx := 7) (k := 0) (N := 2) (fs := [.ref b1, .int x0.2]) (v := .ref b1) (Or.inl hc2) rfl z_in8 (by decide) (zT_mem 486 (by decide +kernel) rfl) rfl (by decide +kernel) ?_
    refine zV_blk (pc' := 23) (lo' := [(0, .ref a0), (1, .int x1)]) (st' := [.ref a0, .ref b1, .int v4]) [.aload_n 0] (by decide +kernel) rfl ?_
    refine zV_get (ci := 8) (idx := 13) (k := 1) (N := 2) (fs := [.ref b1, .int x0.2]) (v := .int x0.2) (Or.inl hc2) rfl z_in8 (by decide) (zT_mem 487 (by decide +kernel) rfl) rfl (by decide +kernel) ?_
    obtain ⟨hz, h⟩ := zck_some h
    refine zV_iald 1 (Or.inl hb3) rfl (zin_in hz) (by decide +kernel) ?_
    refine zV_blk (pc' := 29) (lo' := [(0, .ref a0), (1, .int x1)]) (st' := [.ref a0, .int (v4 * (x0.1.2 (x0.2 : Int32).toNatClampNeg))]) [.imul, .aload_n 0] (by decide +kernel) rfl ?_
    refine zV_get (ci := 8) (idx := 7) (k := 0) (N := 2) (fs := [.ref b1, .int x0.2]) (v := .ref b1) (Or.inl hc2) rfl z_in8 (by decide) (zT_mem 486 (by decide +kernel) rfl) rfl (by decide +kernel) ?_
    refine zV_blk (pc' := 34) (lo' := [(0, .ref a0), (1, .int x1)]) (st' := [.ref a0, .int x1, .ref b1, .int (v4 * (x0.1.2 (x0.2 : Int32).toNatClampNeg))]) [.iload_n 1, .aload_n 0] (by decide +kernel) rfl ?_
    refine zV_get (ci := 8) (idx := 13) (k := 1) (N := 2) (fs := [.ref b1, .int x0.2]) (v := .int x0.2) (Or.inl hc2) rfl z_in8 (by decide) (zT_mem 487 (by decide +kernel) rfl) rfl (by decide +kernel) ?_
    obtain ⟨v5, hv5, h⟩ := zbind h
    refine zV_roS (idx := 17) (rest := [.ref b1, .int (v4 * (x0.1.2 (x0.2 : Int32).toNatClampNeg))]) (fun Q2 hQ2 => cj_fmodI s0 D cB cI cJ cD x1 x0.2  v5 hv5  hQ2) oJ9_floorMod_7cf53 (zT_mem 648 (by decide +kernel) rfl) (zT_mem 649 (by decide +kernel) rfl) rfl rfl (Nat.le_of_ble_eq_true rfl) ⟨by decide, by decide⟩ (by decide +kernel) ?_
    refine zV_eq (st2 := [.int v5, .ref b1, .int (v4 * (x0.1.2 (x0.2 : Int32).toNatClampNeg))]) rfl rfl rfl rfl ?_
    obtain ⟨hz, h⟩ := zck_some h
    refine zV_iald 1 (Or.inl hb3) rfl (zin_in hz) (by decide +kernel) ?_
    refine zV_blk (pc' := 42) (lo' := [(0, .ref a0), (1, .int x1)]) (st' := [.int ((v4 * (x0.1.2 (x0.2 : Int32).toNatClampNeg)) + (x0.1.2 (v5 : Int32).toNatClampNeg))]) [.iadd] (by decide +kernel) rfl ?_
    obtain rfl := Option.some.inj h
    exact zV_iret rfl (by decide +kernel) (hQ _ rfl)
  · replace h := zif_neg q h
    clear q
    refine zV_blk (pc' := 9) (lo' := [(0, .ref a0), (1, .int x1)]) (st' := [.int 0]) [.iconst 0] (by decide +kernel) rfl ?_
    obtain rfl := Option.some.inj h
    exact zV_iret rfl (by decide +kernel) (hQ _ rfl)

def d_leapsBefore (n : Nat) (v : vLaw) (z0 : Int32) : Option Int32 := match v with
  | .inl _ => k_leapsBefore_None z0
  | .inr (.inl v) => k_leapsBefore_Even v z0
  | .inr (.inr (.inl v)) => k_leapsBefore_Ladder n v z0
  | .inr (.inr (.inr v)) => k_leapsBefore_Row v z0
set_option maxHeartbeats 4000000 in
set_option maxRecDepth 100000 in
theorem dc_leapsBefore (s0 : State) (D : va_G) (cB cI cJ cD : ClassId) (n : Nat) (v : vLaw) (z0 : Int32) (b : Nat) (r : Int32) (h : d_leapsBefore n v z0 = some r) {y : MethodName} {cc : ByteArray} {nL : Nat} {ret : Option FieldType} {rF rL mc ms pc idx : Nat} {lo : List (Nat × Value)} {st rest : List Value} {hi hm : zHp} {nx : Nat} {Q : Option Value → zHp → zHp → Nat → Prop} (hb : iLaw cI hi b v) (hlink : Cond.methodLink y.cls idx yX6_leapsBefore ∈ zT) (hst : st = ([.int z0] : List Value).reverse ++ .ref b :: rest) (hrest : (rest.map fun v => v.category).sum ≤ 8) (hR : 1 + 1 ≤ rF ∧ 19 + 27 ≤ rL) (hd : decode cc pc = .ok (.invokevirtual idx, 3)) (k : zV s0 D (zty cB cI cJ cD) y cc nL ret rF rL mc ms (pc + 3) lo (.int r :: rest) hi hm nx Q) : zV s0 D (zty cB cI cJ cD) y cc nL ret rF rL mc ms pc lo st hi hm nx Q := by
  rcases v with ⟨⟩ | v | v | v
  · have hk := hb
    exact zV_roV (idx := idx) (rest := rest) (ci := 6) (fun Q2 hQ2 => ck_leapsBefore_None s0 D cB cI cJ cD z0 b r h hb hQ2) oX6_leapsBefore (Or.inl hk) rfl hlink (zT_mem 631 (by decide +kernel) rfl) (zT_mem 632 (by decide +kernel) rfl) rfl hst hrest ⟨by omega, by omega⟩ hd k
  · have hk := hb
    exact zV_roU (x := yX6_leapsBefore) (owner := RX6) (C := RX1) (idx := idx) (rest := rest) (ci := 1) (b0 := cX6_leapsBefore) (m0 := 2) (r0 := some .int) (fun Q2 hQ2 => ck_leapsBefore_Even s0 D cB cI cJ cD v z0 b r h hb hQ2) oX1_leapsBefore (Or.inl hk) rfl hlink (zT_mem 633 (by decide +kernel) rfl) (zT_mem 631 (by decide +kernel) rfl) (zT_mem 634 (by decide +kernel) rfl) (zT_mem 635 (by decide +kernel) rfl) (zT_mem 651 (by decide +kernel) rfl) ⟨by decide +kernel, by decide +kernel, by decide +kernel⟩ rfl hst hrest ⟨by omega, by omega⟩ hd k
  · obtain ⟨_, hk, _⟩ := id hb
    exact zV_roU (x := yX6_leapsBefore) (owner := RX6) (C := RX5) (idx := idx) (rest := rest) (ci := 5) (b0 := cX6_leapsBefore) (m0 := 2) (r0 := some .int) (fun Q2 hQ2 => ck_leapsBefore_Ladder s0 D cB cI cJ cD n v z0 b r h hb hQ2) oX5_leapsBefore (Or.inl hk) rfl hlink (zT_mem 633 (by decide +kernel) rfl) (zT_mem 631 (by decide +kernel) rfl) (zT_mem 640 (by decide +kernel) rfl) (zT_mem 641 (by decide +kernel) rfl) (zT_mem 651 (by decide +kernel) rfl) ⟨by decide +kernel, by decide +kernel, by decide +kernel⟩ rfl hst hrest ⟨by omega, by omega⟩ hd k
  · obtain ⟨_, hk, _⟩ := id hb
    exact zV_roU (x := yX6_leapsBefore) (owner := RX6) (C := RX8) (idx := idx) (rest := rest) (ci := 8) (b0 := cX6_leapsBefore) (m0 := 2) (r0 := some .int) (fun Q2 hQ2 => ck_leapsBefore_Row s0 D cB cI cJ cD v z0 b r h hb hQ2) oX8_leapsBefore (Or.inl hk) rfl hlink (zT_mem 633 (by decide +kernel) rfl) (zT_mem 631 (by decide +kernel) rfl) (zT_mem 644 (by decide +kernel) rfl) (zT_mem 645 (by decide +kernel) rfl) (zT_mem 651 (by decide +kernel) rfl) ⟨by decide +kernel, by decide +kernel, by decide +kernel⟩ rfl hst hrest ⟨by omega, by omega⟩ hd k

