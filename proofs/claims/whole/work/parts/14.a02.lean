def k_nearest_31 (x0 : Int64) (x2 : Int64) (x4 : Int64) (s : Int64 × Int64 × vFra × vFra × Int32) : Option ((Int64 × Int64 × vFra × vFra × Int32) ⊕ (vFra)) := (if (200 : Int32) ≤ (s.2.2.2.2 : Int32) then some (.inr s.2.2.2.1) else (if (s.2.1 : Int64) ≤ (0 : Int64) then some (.inr s.2.2.2.1) else zck (decide (¬ (s.2.1 : Int64) = 0)) ((k_plusTimes s.2.2.1 s.2.2.2.1 (s.1 / s.2.1)).bind (fun v1 => (if (v1.2 : Int64) ≤ (x4 : Int64) then zck (decide (¬ (s.2.1 : Int64) = 0)) (some (.inl (s.2.1, (s.1 - s.1 / s.2.1 * s.2.1), s.2.2.2.1, v1, (s.2.2.2.2 + 1)))) else (j_maxL 1 s.2.2.2.1.2).bind (fun v5 => zck (decide (¬ (v5 : Int64) = 0)) ((k_plusTimes s.2.2.1 s.2.2.2.1 ((x4 - s.2.2.1.2) / v5)).bind (fun v6 => (k_isNearer v6 s.2.2.2.1 x0 x2).bind (fun v10 => (if v10 = true then some (.inr v6) else some (.inr s.2.2.2.1)))))))))))
set_option maxHeartbeats 4000000 in
set_option maxRecDepth 100000 in
theorem ck_nearest_31 (s0 : State) (D : va_G) (cB cI cJ cD : ClassId) (x0 : Int64) (x2 : Int64) (x4 : Int64) (s : Int64 × Int64 × vFra × vFra × Int32) (a10 : Nat) (a11 : Nat) {x : (Int64 × Int64 × vFra × vFra × Int32) ⊕ (vFra)} {hi0 hi hm : zHp} {nx : Nat} {Q : Option Value → zHp → zHp → Nat → Prop} (ho10 : iFra hi a10 s.2.2.1) (ho11 : iFra hi a11 s.2.2.2.1) (hXX : zX hi0 hi) (mB sB : Nat) (hB : 1 ≤ mB ∧ 2 ≤ sB) (h : k_nearest_31 x0 x2 x4 s = some x) (hL31 : ∀ s : Int64 × Int64 × vFra × vFra × Int32, x = (.inl s) → ∀ (hi' : zHp) (nx' : Nat) (a10 : Nat) (a11 : Nat), zX hi0 hi' → iFra hi' a10 s.2.2.1 → iFra hi' a11 s.2.2.2.1 → zV s0 D (zty cB cI cJ cD) yX2_nearest cX2_nearest 16 (some (.object "LeapDesigner$Fraction")) 3 67 mB sB 31 [(0, .long x0), (2, .long x2), (4, .long x4), (6, .long s.1), (8, .long s.2.1), (10, .ref a10), (11, .ref a11), (12, .int s.2.2.2.2)] [] hi' hm nx' Q) (hQ : ∀ r : vFra, x = (.inr r) → ∀ (a' : Nat) (hi' : zHp) (nx' : Nat), zX hi0 hi' → iFra hi' a' r → Q (some (.ref a')) hi' hm nx') : zV s0 D (zty cB cI cJ cD) yX2_nearest cX2_nearest 16 (some (.object "LeapDesigner$Fraction")) 3 67 (mB + 1) (sB + 2) 31 [(0, .long x0), (2, .long x2), (4, .long x4), (6, .long s.1), (8, .long s.2.1), (10, .ref a10), (11, .ref a11), (12, .int s.2.2.2.2)] [] hi hm nx Q := by
  unfold k_nearest_31 at h
  refine zV_blk (pc' := 36) (lo' := [(0, .long x0), (2, .long x2), (4, .long x4), (6, .long s.1), (8, .long s.2.1), (10, .ref a10), (11, .ref a11), (12, .int s.2.2.2.2)]) (st' := [.int 200, .int s.2.2.2.2]) [.iload 12, .sipush 200] (by decide +kernel) rfl ?_
  refine zV_icmp_ge (tgt := 147) (off := 111) (by decide +kernel) (by decide) (fun q => ?_) (fun q => ?_)
  · replace h := zif_pos q h
    clear q
    refine zV_less (mc' := 0) (ms' := 0) (by omega) (by omega) ?_
    refine zV_blk (pc' := 149) (lo' := [(0, .long x0), (2, .long x2), (4, .long x4), (6, .long s.1), (8, .long s.2.1), (10, .ref a10), (11, .ref a11), (12, .int s.2.2.2.2)]) (st' := [.ref a11]) [.aload 11] (by decide +kernel) rfl ?_
    obtain rfl := Option.some.inj h
    exact zV_aret rfl (Or.inl ⟨_, rfl⟩) (Or.inr ⟨_, rfl⟩) (by decide +kernel) (hQ _ rfl _ _ _ hXX ho11)
  · replace h := zif_neg q h
    clear q
    refine zV_blk (pc' := 43) (lo' := [(0, .long x0), (2, .long x2), (4, .long x4), (6, .long s.1), (8, .long s.2.1), (10, .ref a10), (11, .ref a11), (12, .int s.2.2.2.2)]) (st' := [.int (lg_cmp s.2.1 0)]) [.lload 8, .lconst 0, .lcmp] (by decide +kernel) rfl ?_
    refine zV_lcmp_le (tgt := 147) (off := 104) (by decide +kernel) (by decide) (fun q => ?_) (fun q => ?_)
    · replace h := zif_pos q h
      clear q
      refine zV_less (mc' := 0) (ms' := 0) (by omega) (by omega) ?_
      refine zV_blk (pc' := 149) (lo' := [(0, .long x0), (2, .long x2), (4, .long x4), (6, .long s.1), (8, .long s.2.1), (10, .ref a10), (11, .ref a11), (12, .int s.2.2.2.2)]) (st' := [.ref a11]) [.aload 11] (by decide +kernel) rfl ?_
      obtain rfl := Option.some.inj h
      exact zV_aret rfl (Or.inl ⟨_, rfl⟩) (Or.inr ⟨_, rfl⟩) (by decide +kernel) (hQ _ rfl _ _ _ hXX ho11)
    · replace h := zif_neg q h
      clear q
      refine zV_blk (pc' := 54) (lo' := [(0, .long x0), (2, .long x2), (4, .long x4), (6, .long s.1), (8, .long s.2.1), (10, .ref a10), (11, .ref a11), (12, .int s.2.2.2.2)]) (st' := [.long s.2.1, .long s.1, .ref a11, .ref a10]) [.aload 10, .aload 11, .lload 6, .lload 8] (by decide +kernel) rfl ?_
      obtain ⟨hz, h⟩ := zck_some h
      refine zV_ldiv (by decide +kernel) (of_decide_eq_true hz) ?_
      obtain ⟨v1, hv1, h⟩ := zbind h
      refine zV_less (mc' := (mB + 0) + 1) (ms' := (sB + 0) + 2) (by omega) (by omega) ?_
      refine zV_alV (mc := (mB + 0)) (ms := (sB + 0)) (fun hi' v' => ∃ a' : Nat, v' = some (.ref a') ∧ iFra hi' a' v1) (idx := 36) (rest := []) (fs := [.long s.2.2.1.1, .long s.2.2.1.2]) (ci := 2) (fun Q2 hQ2 => ck_plusTimes s0 D cB cI cJ cD s.2.2.1 s.2.2.2.1 (s.1 / s.2.1) a10 a11 v1 hv1 ho10 ho11 (fun a' hi' nx' hX hr => hQ2 _ _ _ hX ⟨a', rfl, hr⟩)) oX2_plusTimes (Or.inl ho10) rfl (zT_mem 1405 (by decide +kernel) rfl) (zT_mem 1407 (by decide +kernel) rfl) (zT_mem 18 (by decide +kernel) rfl) rfl rfl (Nat.le_of_ble_eq_true rfl) ⟨by decide, by decide⟩ (by decide +kernel) ?_
      rintro _ hi2 nx4 hX ⟨b2, rfl, ho3⟩
      replace ho10 := hX _ _ ho10
      replace ho11 := ho11.mono hX
      replace hXX := hXX.tr hX; clear hX
      refine zV_eq (st2 := [.ref b2]) rfl rfl rfl rfl ?_
      refine zV_blk (pc' := 62) (lo' := [(13, .ref b2), (0, .long x0), (2, .long x2), (4, .long x4), (6, .long s.1), (8, .long s.2.1), (10, .ref a10), (11, .ref a11), (12, .int s.2.2.2.2)]) (st' := [.ref b2]) [.astore 13, .aload 13] (by decide +kernel) rfl ?_
      refine zV_get (ci := 2) (idx := 15) (k := 1) (N := 2) (fs := [.long v1.1, .long v1.2]) (v := .long v1.2) (Or.inl ho3) rfl z_in2 (by decide) (zT_mem 706 (by decide +kernel) rfl) rfl (by decide +kernel) ?_
      refine zV_blk (pc' := 68) (lo' := [(13, .ref b2), (0, .long x0), (2, .long x2), (4, .long x4), (6, .long s.1), (8, .long s.2.1), (10, .ref a10), (11, .ref a11), (12, .int s.2.2.2.2)]) (st' := [.int (lg_cmp v1.2 x4)]) [.lload 4, .lcmp] (by decide +kernel) rfl ?_
      refine zV_lcmp_le (tgt := 118) (off := 50) (by decide +kernel) (by decide) (fun q => ?_) (fun q => ?_)
      · replace h := zif_pos q h
        clear q
        refine zV_blk (pc' := 130) (lo' := [(11, .ref b2), (10, .ref a11), (13, .ref b2), (0, .long x0), (2, .long x2), (4, .long x4), (6, .long s.1), (8, .long s.2.1), (12, .int s.2.2.2.2)]) (st' := [.long s.2.1, .long s.1]) [.aload 11, .astore 10, .aload 13, .astore 11, .lload 6, .lload 8] (by decide +kernel) rfl ?_
        obtain ⟨hz, h⟩ := zck_some h
        refine zV_lrem (by decide +kernel) (of_decide_eq_true hz) ?_
        refine zV_blk (pc' := 144) (lo' := [(12, .int (s.2.2.2.2 + 1)), (8, .long (s.1 - s.1 / s.2.1 * s.2.1)), (6, .long s.2.1), (14, .long (s.1 - s.1 / s.2.1 * s.2.1)), (11, .ref b2), (10, .ref a11), (13, .ref b2), (0, .long x0), (2, .long x2), (4, .long x4)]) (st' := []) [.lstore 14, .lload 8, .lstore 6, .lload 14, .lstore 8, .iinc 12 1] (by decide +kernel) rfl ?_
        refine zV_goto (tgt := 31) (off := -113) (by decide +kernel) (by decide) ?_
        obtain rfl := Option.some.inj h
        refine zV_pick (lo2 := [(0, .long x0), (2, .long x2), (4, .long x4), (6, .long s.2.1), (8, .long (s.1 - s.1 / s.2.1 * s.2.1)), (10, .ref a11), (11, .ref b2), (12, .int (s.2.2.2.2 + 1))]) [7, 8, 9, 2, 1, 5, 4, 0] rfl ?_
        exact hL31 _ rfl _ _ a11 b2 hXX ho11 ho3
      · replace h := zif_neg q h
        clear q
        refine zV_less (mc' := 1) (ms' := 2) (by omega) (by omega) ?_
        refine zV_blk (pc' := 79) (lo' := [(13, .ref b2), (0, .long x0), (2, .long x2), (4, .long x4), (6, .long s.1), (8, .long s.2.1), (10, .ref a10), (11, .ref a11), (12, .int s.2.2.2.2)]) (st' := [.ref a10, .long x4, .ref a11, .ref a10]) [.aload 10, .aload 11, .lload 4, .aload 10] (by decide +kernel) rfl ?_
        refine zV_get (ci := 2) (idx := 15) (k := 1) (N := 2) (fs := [.long s.2.2.1.1, .long s.2.2.1.2]) (v := .long s.2.2.1.2) (Or.inl ho10) rfl z_in2 (by decide) (zT_mem 706 (by decide +kernel) rfl) rfl (by decide +kernel) ?_
        refine zV_blk (pc' := 86) (lo' := [(13, .ref b2), (0, .long x0), (2, .long x2), (4, .long x4), (6, .long s.1), (8, .long s.2.1), (10, .ref a10), (11, .ref a11), (12, .int s.2.2.2.2)]) (st' := [.ref a11, .long 1, .long (x4 - s.2.2.1.2), .ref a11, .ref a10]) [.lsub, .lconst 1, .aload 11] (by decide +kernel) rfl ?_
        refine zV_get (ci := 2) (idx := 15) (k := 1) (N := 2) (fs := [.long s.2.2.2.1.1, .long s.2.2.2.1.2]) (v := .long s.2.2.2.1.2) (Or.inl ho11) rfl z_in2 (by decide) (zT_mem 706 (by decide +kernel) rfl) rfl (by decide +kernel) ?_
        obtain ⟨v5, hv5, h⟩ := zbind h
        refine zV_roS (idx := 26) (rest := [.long (x4 - s.2.2.1.2), .ref a11, .ref a10]) (fun Q2 hQ2 => cj_maxL s0 D cB cI cJ cD 1 s.2.2.2.1.2  v5 hv5  hQ2) oJ9_max_f86c9 (zT_mem 695 (by decide +kernel) rfl) (zT_mem 696 (by decide +kernel) rfl) rfl rfl (Nat.le_of_ble_eq_true rfl) ⟨by decide, by decide⟩ (by decide +kernel) ?_
        refine zV_eq (st2 := [.long v5, .long (x4 - s.2.2.1.2), .ref a11, .ref a10]) rfl rfl rfl rfl ?_
        obtain ⟨hz, h⟩ := zck_some h
        refine zV_ldiv (by decide +kernel) (of_decide_eq_true hz) ?_
        obtain ⟨v6, hv6, h⟩ := zbind h
        refine zV_alV (mc := 0) (ms := 0) (fun hi' v' => ∃ a' : Nat, v' = some (.ref a') ∧ iFra hi' a' v6) (idx := 36) (rest := []) (fs := [.long s.2.2.1.1, .long s.2.2.1.2]) (ci := 2) (fun Q2 hQ2 => ck_plusTimes s0 D cB cI cJ cD s.2.2.1 s.2.2.2.1 ((x4 - s.2.2.1.2) / v5) a10 a11 v6 hv6 ho10 ho11 (fun a' hi' nx' hX hr => hQ2 _ _ _ hX ⟨a', rfl, hr⟩)) oX2_plusTimes (Or.inl ho10) rfl (zT_mem 1405 (by decide +kernel) rfl) (zT_mem 1407 (by decide +kernel) rfl) (zT_mem 18 (by decide +kernel) rfl) rfl rfl (Nat.le_of_ble_eq_true rfl) ⟨by decide, by decide⟩ (by decide +kernel) ?_
        rintro _ hi2 nx9 hX ⟨b7, rfl, ho8⟩
        replace ho3 := hX _ _ ho3
        replace ho10 := hX _ _ ho10
        replace ho11 := hX _ _ ho11
        replace hXX := hXX.tr hX; clear hX
        refine zV_eq (st2 := [.ref b7]) rfl rfl rfl rfl ?_
        refine zV_blk (pc' := 104) (lo' := [(14, .ref b7), (13, .ref b2), (0, .long x0), (2, .long x2), (4, .long x4), (6, .long s.1), (8, .long s.2.1), (10, .ref a10), (11, .ref a11), (12, .int s.2.2.2.2)]) (st' := [.long x2, .long x0, .ref a11, .ref b7]) [.astore 14, .aload 14, .aload 11, .lload_n 0, .lload_n 2] (by decide +kernel) rfl ?_
        obtain ⟨v10, hv10, h⟩ := zbind h
        refine zV_roV (idx := 40) (rest := []) (fs := [.long v6.1, .long v6.2]) (ci := 2) (fun Q2 hQ2 => ck_isNearer s0 D cB cI cJ cD v6 s.2.2.2.1 x0 x2 b7 a11 v10 hv10 ho8 ho11 hQ2) oX2_isNearer (Or.inl ho8) rfl (zT_mem 1409 (by decide +kernel) rfl) (zT_mem 1411 (by decide +kernel) rfl) (zT_mem 19 (by decide +kernel) rfl) rfl rfl (Nat.le_of_ble_eq_true rfl) ⟨by decide, by decide⟩ (by decide +kernel) ?_
        refine zV_eq (st2 := [.int (zb v10)]) rfl rfl rfl rfl ?_
        refine zV_bif_eq (tgt := 115) (off := 8) (by decide +kernel) (by decide) (fun q => ?_) (fun q => ?_)
        · replace h := zif_neg q h
          clear q
          refine zV_blk (pc' := 117) (lo' := [(14, .ref b7), (13, .ref b2), (0, .long x0), (2, .long x2), (4, .long x4), (6, .long s.1), (8, .long s.2.1), (10, .ref a10), (11, .ref a11), (12, .int s.2.2.2.2)]) (st' := [.ref a11]) [.aload 11] (by decide +kernel) rfl ?_
          obtain rfl := Option.some.inj h
          exact zV_aret rfl (Or.inl ⟨_, rfl⟩) (Or.inr ⟨_, rfl⟩) (by decide +kernel) (hQ _ rfl _ _ _ hXX ho11)
        · replace h := zif_pos q h
          clear q
          refine zV_blk (pc' := 112) (lo' := [(14, .ref b7), (13, .ref b2), (0, .long x0), (2, .long x2), (4, .long x4), (6, .long s.1), (8, .long s.2.1), (10, .ref a10), (11, .ref a11), (12, .int s.2.2.2.2)]) (st' := [.ref b7]) [.aload 14] (by decide +kernel) rfl ?_
          refine zV_goto (tgt := 117) (off := 5) (by decide +kernel) (by decide) ?_
          obtain rfl := Option.some.inj h
          exact zV_aret rfl (Or.inl ⟨_, rfl⟩) (Or.inr ⟨_, rfl⟩) (by decide +kernel) (hQ _ rfl _ _ _ hXX ho8)
theorem ck_nearest_31L (s0 : State) (D : va_G) (cB cI cJ cD : ClassId) (x0 : Int64) (x2 : Int64) (x4 : Int64) : ∀ (k : Nat) (s : Int64 × Int64 × vFra × vFra × Int32) (a10 : Nat) (a11 : Nat) {hi0 hi hm : zHp} {nx : Nat} {Q : Option Value → zHp → zHp → Nat → Prop} (ho10 : iFra hi a10 s.2.2.1) (ho11 : iFra hi a11 s.2.2.2.1) (_ : zX hi0 hi) {x : vFra} (_ : zloop (k_nearest_31 x0 x2 x4) k s = some x) (hQ : ∀ r : vFra, x = r → ∀ (a' : Nat) (hi' : zHp) (nx' : Nat), zX hi0 hi' → iFra hi' a' r → Q (some (.ref a')) hi' hm nx'), zV s0 D (zty cB cI cJ cD) yX2_nearest cX2_nearest 16 (some (.object "LeapDesigner$Fraction")) 3 67 (1 * k + 1) (2 * k + 2) 31 [(0, .long x0), (2, .long x2), (4, .long x4), (6, .long s.1), (8, .long s.2.1), (10, .ref a10), (11, .ref a11), (12, .int s.2.2.2.2)] [] hi hm nx Q
  | 0, s, _, _, _, _, _, _, _, _, _, _, _, h, _ => by cases h
  | k + 1, s, a10, a11, hi0, hi, hm, nx, Q, ho10, ho11, hXX, x, h, hQ => by
    obtain ⟨z, hz, h1, h2⟩ := zloop_succ h
    refine zV_less (mc' := (1 * k + 1) + 1) (ms' := (2 * k + 2) + 2) (by omega) (by omega) ?_
    exact ck_nearest_31 s0 D cB cI cJ cD x0 x2 x4  s a10 a11  ho10 ho11 hXX (1 * k + 1) (2 * k + 2) ⟨by omega, by omega⟩ hz (fun s' hs hi' nx' b10 b11 hX hb10 hb11 => ck_nearest_31L s0 D cB cI cJ cD x0 x2 x4  k s' b10 b11  hb10 hb11 hX (h1 s' hs) hQ) (fun r hr => hQ r (h2 _ hr).symm)
def k_nearest (x0 : Int64) (x2 : Int64) (x4 : Int64) : Option (vFra) := (k_newFra 0 1).bind (fun v4 => (k_newFra 1 0).bind (fun v10 => (zloop (k_nearest_31 x0 x2 x4) 256 (x0, x2, v4, v10, 0))))
theorem oX2_nearest : zO yX2_nearest cX2_nearest 16 (some (.object "LeapDesigner$Fraction")) 3 := ⟨zT_mem 1404 (by decide +kernel) rfl, zT_mem 107 (by decide +kernel) rfl, by decide +kernel, by decide +kernel, by decide +kernel⟩
set_option maxHeartbeats 4000000 in
set_option maxRecDepth 100000 in
theorem ck_nearest (s0 : State) (D : va_G) (cB cI cJ cD : ClassId) (x0 : Int64) (x2 : Int64) (x4 : Int64) (x : vFra) (h : k_nearest x0 x2 x4 = some x) {hi hm : zHp} {nx : Nat} {Q : Option Value → zHp → zHp → Nat → Prop} (hQ0 : ∀ (a' : Nat) (hi' : zHp) (nx' : Nat), zX hi hi' → iFra hi' a' x → Q (some (.ref a')) hi' hm nx') : zM s0 D (zty cB cI cJ cD) yX2_nearest cX2_nearest 16 (some (.object "LeapDesigner$Fraction")) 3 67 259 518 [.long x0, .long x2, .long x4] hi hm nx Q := by
  have hQ : ∀ r : vFra, x = r → ∀ (a' : Nat) (hi' : zHp) (nx' : Nat), zX hi hi' → iFra hi' a' r → Q (some (.ref a')) hi' hm nx' := fun r hr => by subst hr; exact hQ0
  clear hQ0
  have hXX : zX hi hi := zX.rf
  refine zM_of (by decide +kernel) (Nat.le_of_ble_eq_true rfl) ?_
  unfold k_nearest at h
  refine zV_eq (lo2 := [(0, .long x0), (2, .long x2), (4, .long x4)]) rfl rfl rfl rfl ?_
  refine zV_blk (pc' := 6) (lo' := [(8, .long x2), (6, .long x0), (0, .long x0), (2, .long x2), (4, .long x4)]) (st' := []) [.lload_n 0, .lstore 6, .lload_n 2, .lstore 8] (by decide +kernel) rfl ?_
  refine zV_newX (mc := 258) (ms := 516) (ci := 2) (idx := 10) (N := 2) (fs := [.long 0, .long 0]) tyX2 rfl z_in2 tyX2_ok (zT_mem 698 (by decide +kernel) rfl) (zT_mem 699 (by decide +kernel) rfl) (zT_mem 107 (by decide +kernel) rfl) (fun j hj => by rcases (show j = 0 ∨ j = 1 by omega) with rfl | rfl <;> rfl) (by decide +kernel) (fun _ hn2 => ?_)
  obtain ⟨b3, heb3⟩ : ∃ z : Nat, z = nx := ⟨_, rfl⟩
  rw [← heb3] at hn2 ⊢
  obtain ⟨nb3, henb3⟩ : ∃ z : Nat, z = b3 + 1 := ⟨_, rfl⟩
  rw [← henb3]; clear henb3 heb3
  refine zV_blk (pc' := 12) (lo' := [(8, .long x2), (6, .long x0), (0, .long x0), (2, .long x2), (4, .long x4)]) (st' := [.long 1, .long 0, .ref b3, .ref b3]) [.dup, .lconst 0, .lconst 1] (by decide +kernel) rfl ?_
  obtain ⟨v4, hv4, h⟩ := zbind h
  refine zV_mk (idx := 33) (As := [.long 0, .long 1]) (rest := [.ref b3]) (e := .inr (2, [.long v4.1, .long v4.2])) (fun Q2 hQ2 => ck_newFra s0 D cB cI cJ cD 0 1 b3  v4 hv4  (by simp [va_up]) hQ2) oX2_init rfl (zT_mem 700 (by decide +kernel) rfl) (zT_mem 701 (by decide +kernel) rfl) rfl rfl (Nat.le_of_ble_eq_true rfl) ⟨by decide, by decide⟩ (by decide +kernel) hn2 (fun hi2 hX hc5 => ?_)
  replace hXX := hXX.tr hX; clear hX
  have ho6 : iFra hi2 b3 v4 := hc5
  refine zV_blk (pc' := 17) (lo' := [(10, .ref b3), (8, .long x2), (6, .long x0), (0, .long x0), (2, .long x2), (4, .long x4)]) (st' := []) [.astore 10] (by decide +kernel) rfl ?_
  refine zV_newX (mc := 257) (ms := 514) (ci := 2) (idx := 10) (N := 2) (fs := [.long 0, .long 0]) tyX2 rfl z_in2 tyX2_ok (zT_mem 698 (by decide +kernel) rfl) (zT_mem 699 (by decide +kernel) rfl) (zT_mem 107 (by decide +kernel) rfl) (fun j hj => by rcases (show j = 0 ∨ j = 1 by omega) with rfl | rfl <;> rfl) (by decide +kernel) (fun _ hn8 => ?_)
  obtain ⟨b9, heb9⟩ : ∃ z : Nat, z = nb3 := ⟨_, rfl⟩
  rw [← heb9] at hn8 ⊢
  obtain ⟨nb9, henb9⟩ : ∃ z : Nat, z = b9 + 1 := ⟨_, rfl⟩
  rw [← henb9]; clear henb9 heb9
  refine zV_blk (pc' := 23) (lo' := [(10, .ref b3), (8, .long x2), (6, .long x0), (0, .long x0), (2, .long x2), (4, .long x4)]) (st' := [.long 0, .long 1, .ref b9, .ref b9]) [.dup, .lconst 1, .lconst 0] (by decide +kernel) rfl ?_
  obtain ⟨v10, hv10, h⟩ := zbind h
  refine zV_mk (idx := 33) (As := [.long 1, .long 0]) (rest := [.ref b9]) (e := .inr (2, [.long v10.1, .long v10.2])) (fun Q2 hQ2 => ck_newFra s0 D cB cI cJ cD 1 0 b9  v10 hv10  (by simp [va_up]) hQ2) oX2_init rfl (zT_mem 700 (by decide +kernel) rfl) (zT_mem 701 (by decide +kernel) rfl) rfl rfl (Nat.le_of_ble_eq_true rfl) ⟨by decide, by decide⟩ (by decide +kernel) hn8 (fun hi2 hX hc11 => ?_)
  replace ho6 := ho6.mono hX
  replace hXX := hXX.tr hX; clear hX
  have ho12 : iFra hi2 b9 v10 := hc11
  refine zV_blk (pc' := 31) (lo' := [(12, .int 0), (11, .ref b9), (10, .ref b3), (8, .long x2), (6, .long x0), (0, .long x0), (2, .long x2), (4, .long x4)]) (st' := []) [.astore 11, .iconst 0, .istore 12] (by decide +kernel) rfl ?_
  refine zV_pick (lo2 := [(0, .long x0), (2, .long x2), (4, .long x4), (6, .long x0), (8, .long x2), (10, .ref b3), (11, .ref b9), (12, .int 0)]) [5, 6, 7, 4, 3, 2, 1, 0] rfl ?_
  exact ck_nearest_31L s0 D cB cI cJ cD x0 x2 x4  256 (x0, x2, v4, v10, 0) b3 b9  ho6 ho12 hXX h hQ

def k_withLength (x0 : vTrue) (x1 : Int32) (x2 : Int32) (x3 : Int32) : Option (vTrue) := (k_newTrue x1 x2 x3 x0.2.2.2.1 x0.2.2.2.2).bind (fun v4 => some v4)
theorem oX10_withLength : zO yX10_withLength cX10_withLength 4 (some (.object "LeapDesigner$TrueYear")) 3 := ⟨zT_mem 511 (by decide +kernel) rfl, zT_mem 99 (by decide +kernel) rfl, by decide +kernel, by decide +kernel, by decide +kernel⟩
set_option maxHeartbeats 4000000 in
set_option maxRecDepth 100000 in
theorem ck_withLength (s0 : State) (D : va_G) (cB cI cJ cD : ClassId) (x0 : vTrue) (x1 : Int32) (x2 : Int32) (x3 : Int32) (a0 : Nat) (x : vTrue) (h : k_withLength x0 x1 x2 x3 = some x) {hi hm : zHp} {nx : Nat} {Q : Option Value → zHp → zHp → Nat → Prop} (ho0 : iTrue hi a0 x0) (hQ0 : ∀ (a' : Nat) (hi' : zHp) (nx' : Nat), zX hi hi' → iTrue hi' a' x → Q (some (.ref a')) hi' hm nx') : zM s0 D (zty cB cI cJ cD) yX10_withLength cX10_withLength 4 (some (.object "LeapDesigner$TrueYear")) 2 46 1 5 [.ref a0, .int x1, .int x2, .int x3] hi hm nx Q := by
  have hQ : ∀ r : vTrue, x = r → ∀ (a' : Nat) (hi' : zHp) (nx' : Nat), zX hi hi' → iTrue hi' a' r → Q (some (.ref a')) hi' hm nx' := fun r hr => by subst hr; exact hQ0
  clear hQ0
  have hXX : zX hi hi := zX.rf
  refine zM_of (by decide +kernel) (Nat.le_of_ble_eq_true rfl) ?_
  unfold k_withLength at h
  refine zV_eq (lo2 := [(0, .ref a0), (1, .int x1), (2, .int x2), (3, .int x3)]) rfl rfl rfl rfl ?_
  refine zV_newX (mc := 0) (ms := 0) (ci := 10) (idx := 8) (N := 5) (fs := [.int 0, .int 0, .int 0, .int 0, .int 0]) tyX10 rfl z_in10 tyX10_ok (zT_mem 512 (by decide +kernel) rfl) (zT_mem 269 (by decide +kernel) rfl) (zT_mem 99 (by decide +kernel) rfl) (fun j hj => by rcases (show j = 0 ∨ j = 1 ∨ j = 2 ∨ j = 3 ∨ j = 4 by omega) with rfl | rfl | rfl | rfl | rfl <;> rfl) (by decide +kernel) (fun _ hn2 => ?_)
  obtain ⟨b3, heb3⟩ : ∃ z : Nat, z = nx := ⟨_, rfl⟩
  rw [← heb3] at hn2 ⊢
  obtain ⟨nb3, henb3⟩ : ∃ z : Nat, z = b3 + 1 := ⟨_, rfl⟩
  rw [← henb3]; clear henb3 heb3
  refine zV_blk (pc' := 8) (lo' := [(0, .ref a0), (1, .int x1), (2, .int x2), (3, .int x3)]) (st' := [.ref a0, .int x3, .int x2, .int x1, .ref b3, .ref b3]) [.dup, .iload_n 1, .iload_n 2, .iload_n 3, .aload_n 0] (by decide +kernel) rfl ?_
  refine zV_get (ci := 10) (idx := 25) (k := 3) (N := 5) (fs := [.int x0.1, .int x0.2.1, .int x0.2.2.1, .int x0.2.2.2.1, .int x0.2.2.2.2]) (v := .int x0.2.2.2.1) (Or.inl ho0) rfl z_in10 (by decide) (zT_mem 284 (by decide +kernel) rfl) rfl (by decide +kernel) ?_
  refine zV_blk (pc' := 12) (lo' := [(0, .ref a0), (1, .int x1), (2, .int x2), (3, .int x3)]) (st' := [.ref a0, .int x0.2.2.2.1, .int x3, .int x2, .int x1, .ref b3, .ref b3]) [.aload_n 0] (by decide +kernel) rfl ?_
  refine zV_get (ci := 10) (idx := 28) (k := 4) (N := 5) (fs := [.int x0.1, .int x0.2.1, .int x0.2.2.1, .int x0.2.2.2.1, .int x0.2.2.2.2]) (v := .int x0.2.2.2.2) (Or.inl ho0) rfl z_in10 (by decide) (zT_mem 285 (by decide +kernel) rfl) rfl (by decide +kernel) ?_
  obtain ⟨v4, hv4, h⟩ := zbind h
  refine zV_mk (idx := 31) (As := [.int x1, .int x2, .int x3, .int x0.2.2.2.1, .int x0.2.2.2.2]) (rest := [.ref b3]) (e := .inr (10, [.int v4.1, .int v4.2.1, .int v4.2.2.1, .int v4.2.2.2.1, .int v4.2.2.2.2])) (fun Q2 hQ2 => ck_newTrue s0 D cB cI cJ cD x1 x2 x3 x0.2.2.2.1 x0.2.2.2.2 b3  v4 hv4  (by simp [va_up]) hQ2) oX10_init rfl (zT_mem 513 (by decide +kernel) rfl) (zT_mem 271 (by decide +kernel) rfl) rfl rfl (Nat.le_of_ble_eq_true rfl) ⟨by decide, by decide⟩ (by decide +kernel) hn2 (fun hi2 hX hc5 => ?_)
  replace ho0 := hX _ _ ho0
  replace hXX := hXX.tr hX; clear hX
  have ho6 : iTrue hi2 b3 v4 := hc5
  obtain rfl := Option.some.inj h
  exact zV_aret rfl (Or.inl ⟨_, rfl⟩) (Or.inr ⟨_, rfl⟩) (by decide +kernel) (hQ _ rfl _ _ _ hXX ho6)

def k_withBegin (x0 : vTrue) (x1 : Int32) (x2 : Int32) : Option (vTrue) := (k_newTrue x0.1 x0.2.1 x0.2.2.1 x1 x2).bind (fun v4 => some v4)
theorem oX10_withBegin : zO yX10_withBegin cX10_withBegin 3 (some (.object "LeapDesigner$TrueYear")) 2 := ⟨zT_mem 518 (by decide +kernel) rfl, zT_mem 99 (by decide +kernel) rfl, by decide +kernel, by decide +kernel, by decide +kernel⟩
set_option maxHeartbeats 4000000 in
set_option maxRecDepth 100000 in
theorem ck_withBegin (s0 : State) (D : va_G) (cB cI cJ cD : ClassId) (x0 : vTrue) (x1 : Int32) (x2 : Int32) (a0 : Nat) (x : vTrue) (h : k_withBegin x0 x1 x2 = some x) {hi hm : zHp} {nx : Nat} {Q : Option Value → zHp → zHp → Nat → Prop} (ho0 : iTrue hi a0 x0) (hQ0 : ∀ (a' : Nat) (hi' : zHp) (nx' : Nat), zX hi hi' → iTrue hi' a' x → Q (some (.ref a')) hi' hm nx') : zM s0 D (zty cB cI cJ cD) yX10_withBegin cX10_withBegin 3 (some (.object "LeapDesigner$TrueYear")) 2 46 1 5 [.ref a0, .int x1, .int x2] hi hm nx Q := by
  have hQ : ∀ r : vTrue, x = r → ∀ (a' : Nat) (hi' : zHp) (nx' : Nat), zX hi hi' → iTrue hi' a' r → Q (some (.ref a')) hi' hm nx' := fun r hr => by subst hr; exact hQ0
  clear hQ0
  have hXX : zX hi hi := zX.rf
  refine zM_of (by decide +kernel) (Nat.le_of_ble_eq_true rfl) ?_
  unfold k_withBegin at h
  refine zV_eq (lo2 := [(0, .ref a0), (1, .int x1), (2, .int x2)]) rfl rfl rfl rfl ?_
  refine zV_newX (mc := 0) (ms := 0) (ci := 10) (idx := 8) (N := 5) (fs := [.int 0, .int 0, .int 0, .int 0, .int 0]) tyX10 rfl z_in10 tyX10_ok (zT_mem 512 (by decide +kernel) rfl) (zT_mem 269 (by decide +kernel) rfl) (zT_mem 99 (by decide +kernel) rfl) (fun j hj => by rcases (show j = 0 ∨ j = 1 ∨ j = 2 ∨ j = 3 ∨ j = 4 by omega) with rfl | rfl | rfl | rfl | rfl <;> rfl) (by decide +kernel) (fun _ hn2 => ?_)
  obtain ⟨b3, heb3⟩ : ∃ z : Nat, z = nx := ⟨_, rfl⟩
  rw [← heb3] at hn2 ⊢
  obtain ⟨nb3, henb3⟩ : ∃ z : Nat, z = b3 + 1 := ⟨_, rfl⟩
  rw [← henb3]; clear henb3 heb3
  refine zV_blk (pc' := 5) (lo' := [(0, .ref a0), (1, .int x1), (2, .int x2)]) (st' := [.ref a0, .ref b3, .ref b3]) [.dup, .aload_n 0] (by decide +kernel) rfl ?_
  refine zV_get (ci := 10) (idx := 7) (k := 0) (N := 5) (fs := [.int x0.1, .int x0.2.1, .int x0.2.2.1, .int x0.2.2.2.1, .int x0.2.2.2.2]) (v := .int x0.1) (Or.inl ho0) rfl z_in10 (by decide) (zT_mem 277 (by decide +kernel) rfl) rfl (by decide +kernel) ?_
  refine zV_blk (pc' := 9) (lo' := [(0, .ref a0), (1, .int x1), (2, .int x2)]) (st' := [.ref a0, .int x0.1, .ref b3, .ref b3]) [.aload_n 0] (by decide +kernel) rfl ?_
  refine zV_get (ci := 10) (idx := 13) (k := 1) (N := 5) (fs := [.int x0.1, .int x0.2.1, .int x0.2.2.1, .int x0.2.2.2.1, .int x0.2.2.2.2]) (v := .int x0.2.1) (Or.inl ho0) rfl z_in10 (by decide) (zT_mem 279 (by decide +kernel) rfl) rfl (by decide +kernel) ?_
  refine zV_blk (pc' := 13) (lo' := [(0, .ref a0), (1, .int x1), (2, .int x2)]) (st' := [.ref a0, .int x0.2.1, .int x0.1, .ref b3, .ref b3]) [.aload_n 0] (by decide +kernel) rfl ?_
  refine zV_get (ci := 10) (idx := 22) (k := 2) (N := 5) (fs := [.int x0.1, .int x0.2.1, .int x0.2.2.1, .int x0.2.2.2.1, .int x0.2.2.2.2]) (v := .int x0.2.2.1) (Or.inl ho0) rfl z_in10 (by decide) (zT_mem 281 (by decide +kernel) rfl) rfl (by decide +kernel) ?_
  refine zV_blk (pc' := 18) (lo' := [(0, .ref a0), (1, .int x1), (2, .int x2)]) (st' := [.int x2, .int x1, .int x0.2.2.1, .int x0.2.1, .int x0.1, .ref b3, .ref b3]) [.iload_n 1, .iload_n 2] (by decide +kernel) rfl ?_
  obtain ⟨v4, hv4, h⟩ := zbind h
  refine zV_mk (idx := 31) (As := [.int x0.1, .int x0.2.1, .int x0.2.2.1, .int x1, .int x2]) (rest := [.ref b3]) (e := .inr (10, [.int v4.1, .int v4.2.1, .int v4.2.2.1, .int v4.2.2.2.1, .int v4.2.2.2.2])) (fun Q2 hQ2 => ck_newTrue s0 D cB cI cJ cD x0.1 x0.2.1 x0.2.2.1 x1 x2 b3  v4 hv4  (by simp [va_up]) hQ2) oX10_init rfl (zT_mem 513 (by decide +kernel) rfl) (zT_mem 271 (by decide +kernel) rfl) rfl rfl (Nat.le_of_ble_eq_true rfl) ⟨by decide, by decide⟩ (by decide +kernel) hn2 (fun hi2 hX hc5 => ?_)
  replace ho0 := hX _ _ ho0
  replace hXX := hXX.tr hX; clear hX
  have ho6 : iTrue hi2 b3 v4 := hc5
  obtain rfl := Option.some.inj h
  exact zV_aret rfl (Or.inl ⟨_, rfl⟩) (Or.inr ⟨_, rfl⟩) (by decide +kernel) (hQ _ rfl _ _ _ hXX ho6)

def k_length (n : Nat) (x0 : vTrue) : Option (vFra) := (k_leastTerms n (((x0.1 : Int32).toInt64 * (x0.2.2.1 : Int32).toInt64) + (x0.2.1 : Int32).toInt64) (x0.2.2.1 : Int32).toInt64).bind (fun v1 => some v1)
theorem oX10_length : zO yX10_length cX10_length 1 (some (.object "LeapDesigner$Fraction")) 0 := ⟨zT_mem 685 (by decide +kernel) rfl, zT_mem 99 (by decide +kernel) rfl, by decide +kernel, by decide +kernel, by decide +kernel⟩
set_option maxHeartbeats 4000000 in
set_option maxRecDepth 100000 in
theorem ck_length (s0 : State) (D : va_G) (cB cI cJ cD : ClassId) (n : Nat) (x0 : vTrue) (a0 : Nat) (x : vFra) (h : k_length n x0 = some x) {hi hm : zHp} {nx : Nat} {Q : Option Value → zHp → zHp → Nat → Prop} (ho0 : iTrue hi a0 x0) (hQ0 : ∀ (a' : Nat) (hi' : zHp) (nx' : Nat), zX hi hi' → iFra hi' a' x → Q (some (.ref a')) hi' hm nx') : zM s0 D (zty cB cI cJ cD) yX10_length cX10_length 1 (some (.object "LeapDesigner$Fraction")) 3 78 1 2 [.ref a0] hi hm nx Q := by
  have hQ : ∀ r : vFra, x = r → ∀ (a' : Nat) (hi' : zHp) (nx' : Nat), zX hi hi' → iFra hi' a' r → Q (some (.ref a')) hi' hm nx' := fun r hr => by subst hr; exact hQ0
  clear hQ0
  have hXX : zX hi hi := zX.rf
  refine zM_of (by decide +kernel) (Nat.le_of_ble_eq_true rfl) ?_
  unfold k_length at h
  refine zV_eq (lo2 := [(0, .ref a0)]) rfl rfl rfl rfl ?_
  refine zV_blk (pc' := 1) (lo' := [(0, .ref a0)]) (st' := [.ref a0]) [.aload_n 0] (by decide +kernel) rfl ?_
  refine zV_get (ci := 10) (idx := 7) (k := 0) (N := 5) (fs := [.int x0.1, .int x0.2.1, .int x0.2.2.1, .int x0.2.2.2.1, .int x0.2.2.2.2]) (v := .int x0.1) (Or.inl ho0) rfl z_in10 (by decide) (zT_mem 277 (by decide +kernel) rfl) rfl (by decide +kernel) ?_
  refine zV_blk (pc' := 6) (lo' := [(0, .ref a0)]) (st' := [.ref a0, .long (x0.1 : Int32).toInt64]) [.i2l, .aload_n 0] (by decide +kernel) rfl ?_
  refine zV_get (ci := 10) (idx := 22) (k := 2) (N := 5) (fs := [.int x0.1, .int x0.2.1, .int x0.2.2.1, .int x0.2.2.2.1, .int x0.2.2.2.2]) (v := .int x0.2.2.1) (Or.inl ho0) rfl z_in10 (by decide) (zT_mem 281 (by decide +kernel) rfl) rfl (by decide +kernel) ?_
  refine zV_blk (pc' := 12) (lo' := [(0, .ref a0)]) (st' := [.ref a0, .long ((x0.1 : Int32).toInt64 * (x0.2.2.1 : Int32).toInt64)]) [.i2l, .lmul, .aload_n 0] (by decide +kernel) rfl ?_
  refine zV_get (ci := 10) (idx := 13) (k := 1) (N := 5) (fs := [.int x0.1, .int x0.2.1, .int x0.2.2.1, .int x0.2.2.2.1, .int x0.2.2.2.2]) (v := .int x0.2.1) (Or.inl ho0) rfl z_in10 (by decide) (zT_mem 279 (by decide +kernel) rfl) rfl (by decide +kernel) ?_
  refine zV_blk (pc' := 18) (lo' := [(0, .ref a0)]) (st' := [.ref a0, .long (((x0.1 : Int32).toInt64 * (x0.2.2.1 : Int32).toInt64) + (x0.2.1 : Int32).toInt64)]) [.i2l, .ladd, .aload_n 0] (by decide +kernel) rfl ?_
  refine zV_get (ci := 10) (idx := 22) (k := 2) (N := 5) (fs := [.int x0.1, .int x0.2.1, .int x0.2.2.1, .int x0.2.2.2.1, .int x0.2.2.2.2]) (v := .int x0.2.2.1) (Or.inl ho0) rfl z_in10 (by decide) (zT_mem 281 (by decide +kernel) rfl) rfl (by decide +kernel) ?_
  refine zV_blk (pc' := 22) (lo' := [(0, .ref a0)]) (st' := [.long (x0.2.2.1 : Int32).toInt64, .long (((x0.1 : Int32).toInt64 * (x0.2.2.1 : Int32).toInt64) + (x0.2.1 : Int32).toInt64)]) [.i2l] (by decide +kernel) rfl ?_
  obtain ⟨v1, hv1, h⟩ := zbind h
  refine zV_alS (mc := 0) (ms := 0) (fun hi' v' => ∃ a' : Nat, v' = some (.ref a') ∧ iFra hi' a' v1) (idx := 34) (rest := []) (fun Q2 hQ2 => ck_leastTerms s0 D cB cI cJ cD n (((x0.1 : Int32).toInt64 * (x0.2.2.1 : Int32).toInt64) + (x0.2.1 : Int32).toInt64) (x0.2.2.1 : Int32).toInt64  v1 hv1  (fun a' hi' nx' hX hr => hQ2 _ _ _ hX ⟨a', rfl, hr⟩)) oX2_leastTerms (zT_mem 686 (by decide +kernel) rfl) (zT_mem 687 (by decide +kernel) rfl) rfl rfl (Nat.le_of_ble_eq_true rfl) ⟨by decide, by decide⟩ (by decide +kernel) ?_
  rintro _ hi2 nx4 hX ⟨b2, rfl, ho3⟩
  replace ho0 := hX _ _ ho0
  replace hXX := hXX.tr hX; clear hX
  refine zV_eq (st2 := [.ref b2]) rfl rfl rfl rfl ?_
  obtain rfl := Option.some.inj h
  exact zV_aret rfl (Or.inl ⟨_, rfl⟩) (Or.inr ⟨_, rfl⟩) (by decide +kernel) (hQ _ rfl _ _ _ hXX ho3)

def k_withLaw (x0 : vDes) (x1 : vLaw) : Option (vDes) := (k_newDes x0.1 x1 x0.2.2).bind (fun v11 => some v11)
theorem oX0_withLaw : zO yX0_withLaw cX0_withLaw 2 (some (.object "LeapDesigner$Design")) 1 := ⟨zT_mem 745 (by decide +kernel) rfl, zT_mem 105 (by decide +kernel) rfl, by decide +kernel, by decide +kernel, by decide +kernel⟩
set_option maxHeartbeats 4000000 in
set_option maxRecDepth 100000 in
theorem ck_withLaw (s0 : State) (D : va_G) (cB cI cJ cD : ClassId) (x0 : vDes) (x1 : vLaw) (a0 : Nat) (a1 : Nat) (x : vDes) (h : k_withLaw x0 x1 = some x) {hi hm : zHp} {nx : Nat} {Q : Option Value → zHp → zHp → Nat → Prop} (ho0 : iDes cI hi a0 x0) (ho1 : iLaw cI hi a1 x1) (hQ0 : ∀ (a' : Nat) (hi' : zHp) (nx' : Nat), zX hi hi' → iDes cI hi' a' x → Q (some (.ref a')) hi' hm nx') : zM s0 D (zty cB cI cJ cD) yX0_withLaw cX0_withLaw 2 (some (.object "LeapDesigner$Design")) 2 43 1 3 [.ref a0, .ref a1] hi hm nx Q := by
  have hQ : ∀ r : vDes, x = r → ∀ (a' : Nat) (hi' : zHp) (nx' : Nat), zX hi hi' → iDes cI hi' a' r → Q (some (.ref a')) hi' hm nx' := fun r hr => by subst hr; exact hQ0
  clear hQ0
  have hXX : zX hi hi := zX.rf
  refine zM_of (by decide +kernel) (Nat.le_of_ble_eq_true rfl) ?_
  unfold k_withLaw at h
  refine zV_eq (lo2 := [(0, .ref a0), (1, .ref a1)]) rfl rfl rfl rfl ?_
  refine zV_newX (mc := 0) (ms := 0) (ci := 0) (idx := 10) (N := 3) (fs := [.null, .null, .null]) tyX0 rfl z_in0 tyX0_ok (zT_mem 746 (by decide +kernel) rfl) (zT_mem 524 (by decide +kernel) rfl) (zT_mem 105 (by decide +kernel) rfl) (fun j hj => by rcases (show j = 0 ∨ j = 1 ∨ j = 2 by omega) with rfl | rfl | rfl <;> rfl) (by decide +kernel) (fun _ hn2 => ?_)
  obtain ⟨b3, heb3⟩ : ∃ z : Nat, z = nx := ⟨_, rfl⟩
  rw [← heb3] at hn2 ⊢
  obtain ⟨nb3, henb3⟩ : ∃ z : Nat, z = b3 + 1 := ⟨_, rfl⟩
  rw [← henb3]; clear henb3 heb3
  refine zV_blk (pc' := 5) (lo' := [(0, .ref a0), (1, .ref a1)]) (st' := [.ref a0, .ref b3, .ref b3]) [.dup, .aload_n 0] (by decide +kernel) rfl ?_
  obtain ⟨b4, b5, b6, hc7, hc8, hc9, hc10⟩ := ho0
  refine zV_get (ci := 0) (idx := 9) (k := 0) (N := 3) (fs := [.ref b4, .ref b5, .ref b6]) (v := .ref b4) (Or.inl hc7) rfl z_in0 (by decide) (zT_mem 563 (by decide +kernel) rfl) rfl (by decide +kernel) ?_
  refine zV_blk (pc' := 10) (lo' := [(0, .ref a0), (1, .ref a1)]) (st' := [.ref a0, .ref a1, .ref b4, .ref b3, .ref b3]) [.aload_n 1, .aload_n 0] (by decide +kernel) rfl ?_
  refine zV_get (ci := 0) (idx := 19) (k := 2) (N := 3) (fs := [.ref b4, .ref b5, .ref b6]) (v := .ref b6) (Or.inl hc7) rfl z_in0 (by decide) (zT_mem 567 (by decide +kernel) rfl) rfl (by decide +kernel) ?_
  obtain ⟨v11, hv11, h⟩ := zbind h
  refine zV_mk (idx := 23) (As := [.ref b4, .ref a1, .ref b6]) (rest := [.ref b3]) (e := .inr (0, [.ref b4, .ref a1, .ref b6])) (fun Q2 hQ2 => ck_newDes s0 D cB cI cJ cD x0.1 x1 x0.2.2 b3 b4 a1 b6 v11 hv11 hc8 ho1 hc10 (by simp [va_up]) hQ2) oX0_init rfl (zT_mem 747 (by decide +kernel) rfl) (zT_mem 560 (by decide +kernel) rfl) rfl rfl (Nat.le_of_ble_eq_true rfl) ⟨by decide, by decide⟩ (by decide +kernel) hn2 (fun hi2 hX hc12 => ?_)
  replace hc7 := hX _ _ hc7
  replace hc8 := hc8.mono hX
  replace hc9 := hc9.mono hX
  replace hc10 := hc10.mono hX
  replace ho1 := ho1.mono hX
  replace hXX := hXX.tr hX; clear hX
  have eq13 : v11.1 = x0.1 := by have hv := hv11; unfold k_newDes at hv; first | (cases hv; rfl) | (obtain ⟨w, hw, hv⟩ := zbind hv; cases hv; rfl)
  have eq14 : v11.2.1 = x1 := by have hv := hv11; unfold k_newDes at hv; first | (cases hv; rfl) | (obtain ⟨w, hw, hv⟩ := zbind hv; cases hv; rfl)
  have eq15 : v11.2.2 = x0.2.2 := by have hv := hv11; unfold k_newDes at hv; first | (cases hv; rfl) | (obtain ⟨w, hw, hv⟩ := zbind hv; cases hv; rfl)
  have ho16 : iDes cI hi2 b3 v11 := ⟨b4, a1, b6, hc12, (by rw [eq13]; exact hc8), (by rw [eq14]; exact ho1), (by rw [eq15]; exact hc10)⟩
  obtain rfl := Option.some.inj h
  exact zV_aret rfl (Or.inl ⟨_, rfl⟩) (Or.inr ⟨_, rfl⟩) (by decide +kernel) (hQ _ rfl _ _ _ hXX ho16)

def k_withTrueYear (x0 : vDes) (x1 : vTrue) : Option (vDes) := (k_newDes x0.1 x0.2.1 x1).bind (fun v11 => some v11)
theorem oX0_withTrueYear : zO yX0_withTrueYear cX0_withTrueYear 2 (some (.object "LeapDesigner$Design")) 1 := ⟨zT_mem 757 (by decide +kernel) rfl, zT_mem 105 (by decide +kernel) rfl, by decide +kernel, by decide +kernel, by decide +kernel⟩
set_option maxHeartbeats 4000000 in
set_option maxRecDepth 100000 in
theorem ck_withTrueYear (s0 : State) (D : va_G) (cB cI cJ cD : ClassId) (x0 : vDes) (x1 : vTrue) (a0 : Nat) (a1 : Nat) (x : vDes) (h : k_withTrueYear x0 x1 = some x) {hi hm : zHp} {nx : Nat} {Q : Option Value → zHp → zHp → Nat → Prop} (ho0 : iDes cI hi a0 x0) (ho1 : iTrue hi a1 x1) (hQ0 : ∀ (a' : Nat) (hi' : zHp) (nx' : Nat), zX hi hi' → iDes cI hi' a' x → Q (some (.ref a')) hi' hm nx') : zM s0 D (zty cB cI cJ cD) yX0_withTrueYear cX0_withTrueYear 2 (some (.object "LeapDesigner$Design")) 2 43 1 3 [.ref a0, .ref a1] hi hm nx Q := by
  have hQ : ∀ r : vDes, x = r → ∀ (a' : Nat) (hi' : zHp) (nx' : Nat), zX hi hi' → iDes cI hi' a' r → Q (some (.ref a')) hi' hm nx' := fun r hr => by subst hr; exact hQ0
  clear hQ0
  have hXX : zX hi hi := zX.rf
  refine zM_of (by decide +kernel) (Nat.le_of_ble_eq_true rfl) ?_
  unfold k_withTrueYear at h
  refine zV_eq (lo2 := [(0, .ref a0), (1, .ref a1)]) rfl rfl rfl rfl ?_
  refine zV_newX (mc := 0) (ms := 0) (ci := 0) (idx := 10) (N := 3) (fs := [.null, .null, .null]) tyX0 rfl z_in0 tyX0_ok (zT_mem 746 (by decide +kernel) rfl) (zT_mem 524 (by decide +kernel) rfl) (zT_mem 105 (by decide +kernel) rfl) (fun j hj => by rcases (show j = 0 ∨ j = 1 ∨ j = 2 by omega) with rfl | rfl | rfl <;> rfl) (by decide +kernel) (fun _ hn2 => ?_)
  obtain ⟨b3, heb3⟩ : ∃ z : Nat, z = nx := ⟨_, rfl⟩
  rw [← heb3] at hn2 ⊢
  obtain ⟨nb3, henb3⟩ : ∃ z : Nat, z = b3 + 1 := ⟨_, rfl⟩
  rw [← henb3]; clear henb3 heb3
  refine zV_blk (pc' := 5) (lo' := [(0, .ref a0), (1, .ref a1)]) (st' := [.ref a0, .ref b3, .ref b3]) [.dup, .aload_n 0] (by decide +kernel) rfl ?_
  obtain ⟨b4, b5, b6, hc7, hc8, hc9, hc10⟩ := ho0
  refine zV_get (ci := 0) (idx := 9) (k := 0) (N := 3) (fs := [.ref b4, .ref b5, .ref b6]) (v := .ref b4) (Or.inl hc7) rfl z_in0 (by decide) (zT_mem 563 (by decide +kernel) rfl) rfl (by decide +kernel) ?_
  refine zV_blk (pc' := 9) (lo' := [(0, .ref a0), (1, .ref a1)]) (st' := [.ref a0, .ref b4, .ref b3, .ref b3]) [.aload_n 0] (by decide +kernel) rfl ?_
  refine zV_get (ci := 0) (idx := 15) (k := 1) (N := 3) (fs := [.ref b4, .ref b5, .ref b6]) (v := .ref b5) (Or.inl hc7) rfl z_in0 (by decide) (zT_mem 565 (by decide +kernel) rfl) rfl (by decide +kernel) ?_
  refine zV_blk (pc' := 13) (lo' := [(0, .ref a0), (1, .ref a1)]) (st' := [.ref a1, .ref b5, .ref b4, .ref b3, .ref b3]) [.aload_n 1] (by decide +kernel) rfl ?_
  obtain ⟨v11, hv11, h⟩ := zbind h
  refine zV_mk (idx := 23) (As := [.ref b4, .ref b5, .ref a1]) (rest := [.ref b3]) (e := .inr (0, [.ref b4, .ref b5, .ref a1])) (fun Q2 hQ2 => ck_newDes s0 D cB cI cJ cD x0.1 x0.2.1 x1 b3 b4 b5 a1 v11 hv11 hc8 hc9 ho1 (by simp [va_up]) hQ2) oX0_init rfl (zT_mem 747 (by decide +kernel) rfl) (zT_mem 560 (by decide +kernel) rfl) rfl rfl (Nat.le_of_ble_eq_true rfl) ⟨by decide, by decide⟩ (by decide +kernel) hn2 (fun hi2 hX hc12 => ?_)
  replace hc7 := hX _ _ hc7
  replace hc8 := hc8.mono hX
  replace hc9 := hc9.mono hX
  replace hc10 := hc10.mono hX
  replace ho1 := ho1.mono hX
  replace hXX := hXX.tr hX; clear hX
  have eq13 : v11.1 = x0.1 := by have hv := hv11; unfold k_newDes at hv; first | (cases hv; rfl) | (obtain ⟨w, hw, hv⟩ := zbind hv; cases hv; rfl)
  have eq14 : v11.2.1 = x0.2.1 := by have hv := hv11; unfold k_newDes at hv; first | (cases hv; rfl) | (obtain ⟨w, hw, hv⟩ := zbind hv; cases hv; rfl)
  have eq15 : v11.2.2 = x1 := by have hv := hv11; unfold k_newDes at hv; first | (cases hv; rfl) | (obtain ⟨w, hw, hv⟩ := zbind hv; cases hv; rfl)
  have ho16 : iDes cI hi2 b3 v11 := ⟨b4, b5, a1, hc12, (by rw [eq13]; exact hc8), (by rw [eq14]; exact hc9), (by rw [eq15]; exact ho1)⟩
  obtain rfl := Option.some.inj h
  exact zV_aret rfl (Or.inl ⟨_, rfl⟩) (Or.inr ⟨_, rfl⟩) (by decide +kernel) (hQ _ rfl _ _ _ hXX ho16)

def k_meanYear (n : Nat) (x0 : vDes) : Option (vFra) := (d_cycle x0.2.1).bind (fun v8 => (k_startOf n x0 v8).bind (fun v9 => (k_leastTerms n v9 (v8 : Int32).toInt64).bind (fun v10 => some v10)))
theorem oX0_meanYear : zO yX0_meanYear cX0_meanYear 2 (some (.object "LeapDesigner$Fraction")) 0 := ⟨zT_mem 716 (by decide +kernel) rfl, zT_mem 105 (by decide +kernel) rfl, by decide +kernel, by decide +kernel, by decide +kernel⟩
set_option maxHeartbeats 4000000 in
set_option maxRecDepth 100000 in
theorem ck_meanYear (s0 : State) (D : va_G) (cB cI cJ cD : ClassId) (n : Nat) (x0 : vDes) (a0 : Nat) (x : vFra) (h : k_meanYear n x0 = some x) {hi hm : zHp} {nx : Nat} {Q : Option Value → zHp → zHp → Nat → Prop} (ho0 : iDes cI hi a0 x0) (hQ0 : ∀ (a' : Nat) (hi' : zHp) (nx' : Nat), zX hi hi' → iFra hi' a' x → Q (some (.ref a')) hi' hm nx') : zM s0 D (zty cB cI cJ cD) yX0_meanYear cX0_meanYear 2 (some (.object "LeapDesigner$Fraction")) 3 78 1 2 [.ref a0] hi hm nx Q := by
  have hQ : ∀ r : vFra, x = r → ∀ (a' : Nat) (hi' : zHp) (nx' : Nat), zX hi hi' → iFra hi' a' r → Q (some (.ref a')) hi' hm nx' := fun r hr => by subst hr; exact hQ0
  clear hQ0
  have hXX : zX hi hi := zX.rf
  refine zM_of (by decide +kernel) (Nat.le_of_ble_eq_true rfl) ?_
  unfold k_meanYear at h
  refine zV_eq (lo2 := [(0, .ref a0)]) rfl rfl rfl rfl ?_
  refine zV_blk (pc' := 1) (lo' := [(0, .ref a0)]) (st' := [.ref a0]) [.aload_n 0] (by decide +kernel) rfl ?_
  obtain ⟨b1, b2, b3, hc4, hc5, hc6, hc7⟩ := ho0
  refine zV_get (ci := 0) (idx := 15) (k := 1) (N := 3) (fs := [.ref b1, .ref b2, .ref b3]) (v := .ref b2) (Or.inl hc4) rfl z_in0 (by decide) (zT_mem 565 (by decide +kernel) rfl) rfl (by decide +kernel) ?_
  obtain ⟨v8, hv8, h⟩ := zbind h
  refine dc_cycle s0 D cB cI cJ cD (idx := 43) x0.2.1 b2 v8 hv8 hc6 (zT_mem 717 (by decide +kernel) rfl) (rest := []) rfl (Nat.le_of_ble_eq_true rfl) ⟨by decide, by decide⟩ (by decide +kernel) ?_
  refine zV_eq (st2 := [.int v8]) rfl rfl rfl rfl ?_
  refine zV_blk (pc' := 10) (lo' := [(1, .int v8), (0, .ref a0)]) (st' := [.int v8, .ref a0]) [.istore_n 1, .aload_n 0, .iload_n 1] (by decide +kernel) rfl ?_
  obtain ⟨v9, hv9, h⟩ := zbind h
  refine zV_roV (idx := 47) (rest := []) (fs := [.ref b1, .ref b2, .ref b3]) (ci := 0) (fun Q2 hQ2 => ck_startOf s0 D cB cI cJ cD n x0 v8 a0 v9 hv9 ⟨b1, b2, b3, hc4, hc5, hc6, hc7⟩ hQ2) oX0_startOf (Or.inl hc4) rfl (zT_mem 718 (by decide +kernel) rfl) (zT_mem 719 (by decide +kernel) rfl) (zT_mem 720 (by decide +kernel) rfl) rfl rfl (Nat.le_of_ble_eq_true rfl) ⟨by decide, by decide⟩ (by decide +kernel) ?_
  refine zV_eq (st2 := [.long v9]) rfl rfl rfl rfl ?_
  refine zV_blk (pc' := 15) (lo' := [(1, .int v8), (0, .ref a0)]) (st' := [.long (v8 : Int32).toInt64, .long v9]) [.iload_n 1, .i2l] (by decide +kernel) rfl ?_
  obtain ⟨v10, hv10, h⟩ := zbind h
  refine zV_alS (mc := 0) (ms := 0) (fun hi' v' => ∃ a' : Nat, v' = some (.ref a') ∧ iFra hi' a' v10) (idx := 51) (rest := []) (fun Q2 hQ2 => ck_leastTerms s0 D cB cI cJ cD n v9 (v8 : Int32).toInt64  v10 hv10  (fun a' hi' nx' hX hr => hQ2 _ _ _ hX ⟨a', rfl, hr⟩)) oX2_leastTerms (zT_mem 723 (by decide +kernel) rfl) (zT_mem 687 (by decide +kernel) rfl) rfl rfl (Nat.le_of_ble_eq_true rfl) ⟨by decide, by decide⟩ (by decide +kernel) ?_
  rintro _ hi2 nx13 hX ⟨b11, rfl, ho12⟩
  replace hc4 := hX _ _ hc4
  replace hc5 := hc5.mono hX
  replace hc6 := hc6.mono hX
  replace hc7 := hc7.mono hX
  replace hXX := hXX.tr hX; clear hX
  refine zV_eq (st2 := [.ref b11]) rfl rfl rfl rfl ?_
  obtain rfl := Option.some.inj h
  exact zV_aret rfl (Or.inl ⟨_, rfl⟩) (Or.inr ⟨_, rfl⟩) (by decide +kernel) (hQ _ rfl _ _ _ hXX ho12)

def k_driftOf (n : Nat) (x0 : vDes) (x1 : Int32) : Option (vFra) := (k_driftUnits n x0 x1).bind (fun v1 => (k_unitsOfDay x0.2.2).bind (fun v9 => (k_leastTerms n v1 v9).bind (fun v10 => some v10)))
theorem oX0_driftOf : zO yX0_driftOf cX0_driftOf 2 (some (.object "LeapDesigner$Fraction")) 1 := ⟨zT_mem 1117 (by decide +kernel) rfl, zT_mem 105 (by decide +kernel) rfl, by decide +kernel, by decide +kernel, by decide +kernel⟩
set_option maxHeartbeats 4000000 in
set_option maxRecDepth 100000 in
theorem ck_driftOf (s0 : State) (D : va_G) (cB cI cJ cD : ClassId) (n : Nat) (x0 : vDes) (x1 : Int32) (a0 : Nat) (x : vFra) (h : k_driftOf n x0 x1 = some x) {hi hm : zHp} {nx : Nat} {Q : Option Value → zHp → zHp → Nat → Prop} (ho0 : iDes cI hi a0 x0) (hQ0 : ∀ (a' : Nat) (hi' : zHp) (nx' : Nat), zX hi hi' → iFra hi' a' x → Q (some (.ref a')) hi' hm nx') : zM s0 D (zty cB cI cJ cD) yX0_driftOf cX0_driftOf 2 (some (.object "LeapDesigner$Fraction")) 5 109 1 2 [.ref a0, .int x1] hi hm nx Q := by
  have hQ : ∀ r : vFra, x = r → ∀ (a' : Nat) (hi' : zHp) (nx' : Nat), zX hi hi' → iFra hi' a' r → Q (some (.ref a')) hi' hm nx' := fun r hr => by subst hr; exact hQ0
  clear hQ0
  have hXX : zX hi hi := zX.rf
  refine zM_of (by decide +kernel) (Nat.le_of_ble_eq_true rfl) ?_
  unfold k_driftOf at h
  refine zV_eq (lo2 := [(0, .ref a0), (1, .int x1)]) rfl rfl rfl rfl ?_
  refine zV_blk (pc' := 2) (lo' := [(0, .ref a0), (1, .int x1)]) (st' := [.int x1, .ref a0]) [.aload_n 0, .iload_n 1] (by decide +kernel) rfl ?_
  obtain ⟨v1, hv1, h⟩ := zbind h
  obtain ⟨b2, b3, b4, hc5, hc6, hc7, hc8⟩ := ho0
  refine zV_roV (idx := 131) (rest := []) (fs := [.ref b2, .ref b3, .ref b4]) (ci := 0) (fun Q2 hQ2 => ck_driftUnits s0 D cB cI cJ cD n x0 x1 a0 v1 hv1 ⟨b2, b3, b4, hc5, hc6, hc7, hc8⟩ hQ2) oX0_driftUnits (Or.inl hc5) rfl (zT_mem 1118 (by decide +kernel) rfl) (zT_mem 1119 (by decide +kernel) rfl) (zT_mem 1120 (by decide +kernel) rfl) rfl rfl (Nat.le_of_ble_eq_true rfl) ⟨by decide, by decide⟩ (by decide +kernel) ?_
  refine zV_eq (st2 := [.long v1]) rfl rfl rfl rfl ?_
  refine zV_blk (pc' := 6) (lo' := [(0, .ref a0), (1, .int x1)]) (st' := [.ref a0, .long v1]) [.aload_n 0] (by decide +kernel) rfl ?_
  refine zV_get (ci := 0) (idx := 19) (k := 2) (N := 3) (fs := [.ref b2, .ref b3, .ref b4]) (v := .ref b4) (Or.inl hc5) rfl z_in0 (by decide) (zT_mem 567 (by decide +kernel) rfl) rfl (by decide +kernel) ?_
  obtain ⟨v9, hv9, h⟩ := zbind h
  refine zV_roV (idx := 118) (rest := [.long v1]) (fs := [.int x0.2.2.1, .int x0.2.2.2.1, .int x0.2.2.2.2.1, .int x0.2.2.2.2.2.1, .int x0.2.2.2.2.2.2]) (ci := 10) (fun Q2 hQ2 => ck_unitsOfDay s0 D cB cI cJ cD x0.2.2 b4 v9 hv9 hc8 hQ2) oX10_unitsOfDay (Or.inl hc8) rfl (zT_mem 1126 (by decide +kernel) rfl) (zT_mem 1127 (by decide +kernel) rfl) (zT_mem 1128 (by decide +kernel) rfl) rfl rfl (Nat.le_of_ble_eq_true rfl) ⟨by decide, by decide⟩ (by decide +kernel) ?_
  refine zV_eq (st2 := [.long v9, .long v1]) rfl rfl rfl rfl ?_
  obtain ⟨v10, hv10, h⟩ := zbind h
  refine zV_alS (mc := 0) (ms := 0) (fun hi' v' => ∃ a' : Nat, v' = some (.ref a') ∧ iFra hi' a' v10) (idx := 51) (rest := []) (fun Q2 hQ2 => ck_leastTerms s0 D cB cI cJ cD n v1 v9  v10 hv10  (fun a' hi' nx' hX hr => hQ2 _ _ _ hX ⟨a', rfl, hr⟩)) oX2_leastTerms (zT_mem 723 (by decide +kernel) rfl) (zT_mem 687 (by decide +kernel) rfl) rfl rfl (Nat.le_of_ble_eq_true rfl) ⟨by decide, by decide⟩ (by decide +kernel) ?_
  rintro _ hi2 nx13 hX ⟨b11, rfl, ho12⟩
  replace hc5 := hX _ _ hc5
  replace hc6 := hc6.mono hX
  replace hc7 := hc7.mono hX
  replace hc8 := hX _ _ hc8
  replace hXX := hXX.tr hX; clear hX
  refine zV_eq (st2 := [.ref b11]) rfl rfl rfl rfl ?_
  obtain rfl := Option.some.inj h
  exact zV_aret rfl (Or.inl ⟨_, rfl⟩) (Or.inr ⟨_, rfl⟩) (by decide +kernel) (hQ _ rfl _ _ _ hXX ho12)

