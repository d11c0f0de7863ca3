def mbest (n : Nat) (F : Nat → Int32) (G : Nat → Int64) (x1 : Int32) (x2 : Int32) (x3 : Int32) (x4 : Int32) : Option (Int64 × (Nat → Int32) × (Nat → Int64)) := (misFraction x1 x2).bind (fun v1 => (if v1 = true then (misIn (x3 : Int32).toInt64 1 100000).bind (fun v2 => (if v2 = true then (mlaysBest n G (x1 : Int32).toInt64 (x2 : Int32).toInt64 x3).bind (fun v3 => (mpartOf n (v3 23) (v3 24) x4).bind (fun v4 => some (v4, (upd F 0 0), v3))) else some ((-1000000000000000), (upd F 0 0), G))) else some ((-1000000000000000), (upd F 0 0), G)))
theorem oX12_best : zO yX12_best cX12_best 5 (some .long) 4 := ⟨zT_mem 2066 (by decide +kernel) rfl, zT_mem 94 (by decide +kernel) rfl, by decide +kernel, by decide +kernel, by decide +kernel⟩
set_option maxHeartbeats 4000000 in
set_option maxRecDepth 100000 in
theorem cmbest (s0 : State) (D : va_G) (cB cI cJ cD : ClassId) (am a1 a2 a3 : Nat) (F : Nat → Int32) (G : Nat → Int64) (tp w oc : Nat → Int32) (n : Nat) (x1 : Int32) (x2 : Int32) (x3 : Int32) (x4 : Int32) (x : Int64 × (Nat → Int32) × (Nat → Int64)) (h : mbest n F G x1 x2 x3 x4 = some x) : mC s0 D cB cI cJ cD am a1 a2 a3 yX12_best cX12_best 5 (some .long) 3 76 [.int x1, .int x2, .int x3, .int x4] F G tp w oc (some (.long x.1)) x.2.1 x.2.2 tp w oc := by
  intro hi hm nx Q hW hQ0
  have hQ : ∀ r : Int64 × (Nat → Int32) × (Nat → Int64), x = r → ∀ hm', mW cB cI am a1 a2 a3 r.2.1 r.2.2 tp w oc hm' → mFr am a1 a2 a3 hm hm' → Q (some (.long r.1)) hi hm' nx := fun r hr => by subst hr; exact hQ0
  have hFr : mFr am a1 a2 a3 hm hm := mFr.rf
  clear hQ0
  refine zM_of (by decide +kernel) (Nat.le_of_ble_eq_true rfl) ?_
  unfold mbest at h
  refine zV_eq (lo2 := [(0, .ref am), (1, .int x1), (2, .int x2), (3, .int x3), (4, .int x4)]) rfl rfl rfl rfl ?_
  refine zV_blk (pc' := 2) (lo' := [(0, .ref am), (1, .int x1), (2, .int x2), (3, .int x3), (4, .int x4)]) (st' := [.int 0, .ref am]) [.aload_n 0, .iconst 0] (by decide +kernel) rfl ?_
  refine m_put (idx := 25) (k := 0) (v := .int 0) (F' := (upd F 0 0)) (G' := G) hW m_in12 (by decide) (zT_mem 1440 (by decide +kernel) rfl) rfl rfl rfl rfl (by decide +kernel) (fun hm hW hFr2 => ?_)
  replace hFr := hFr.tr hFr2; clear hFr2
  refine zV_blk (pc' := 7) (lo' := [(0, .ref am), (1, .int x1), (2, .int x2), (3, .int x3), (4, .int x4)]) (st' := [.int x2, .int x1]) [.iload_n 1, .iload_n 2] (by decide +kernel) rfl ?_
  obtain ⟨v1, hv1, h⟩ := zbind h
  refine zV_sC (idx := 450) (rest := []) (cmisFraction s0 D cB cI cJ cD x1 x2 v1 hv1) oX12_isFraction (zT_mem 2067 (by decide +kernel) rfl) (zT_mem 2068 (by decide +kernel) rfl) rfl rfl (Nat.le_of_ble_eq_true rfl) ⟨by decide, by decide⟩ (by decide +kernel) ?_
  refine zV_eq (st2 := [.int (zb v1)]) rfl rfl rfl rfl ?_
  refine zV_bif_eq (tgt := 25) (off := 15) (by decide +kernel) (by decide) (fun q => ?_) (fun q => ?_)
  · replace h := zif_neg q h
    clear q
    refine zV_ldc2 (idx := 40) (v := (-1000000000000000)) (zT_mem 1728 (by decide +kernel) rfl) (by decide +kernel) ?_
    obtain rfl := Option.some.inj h
    exact zV_lret rfl (by decide +kernel) (hQ _ rfl hm hW hFr)
  · replace h := zif_pos q h
    clear q
    refine zV_blk (pc' := 16) (lo' := [(0, .ref am), (1, .int x1), (2, .int x2), (3, .int x3), (4, .int x4)]) (st' := [.long 1, .long (x3 : Int32).toInt64]) [.iload_n 3, .i2l, .lconst 1] (by decide +kernel) rfl ?_
    refine zV_ldc2 (idx := 242) (v := 100000) (zT_mem 1821 (by decide +kernel) rfl) (by decide +kernel) ?_
    obtain ⟨v2, hv2, h⟩ := zbind h
    refine zV_sC (idx := 36) (rest := []) (cmisIn s0 D cB cI cJ cD (x3 : Int32).toInt64 1 100000 v2 hv2) oX12_isIn (zT_mem 1531 (by decide +kernel) rfl) (zT_mem 1532 (by decide +kernel) rfl) rfl rfl (Nat.le_of_ble_eq_true rfl) ⟨by decide, by decide⟩ (by decide +kernel) ?_
    refine zV_eq (st2 := [.int (zb v2)]) rfl rfl rfl rfl ?_
    refine zV_bif_ne (tgt := 29) (off := 7) (by decide +kernel) (by decide) (fun q => ?_) (fun q => ?_)
    · replace h := zif_pos q h
      clear q
      refine zV_blk (pc' := 35) (lo' := [(0, .ref am), (1, .int x1), (2, .int x2), (3, .int x3), (4, .int x4)]) (st' := [.int x3, .long (x2 : Int32).toInt64, .long (x1 : Int32).toInt64, .ref am]) [.aload_n 0, .iload_n 1, .i2l, .iload_n 2, .i2l, .iload_n 3] (by decide +kernel) rfl ?_
      obtain ⟨v3, hv3, h⟩ := zbind h
      refine m_cC (idx := 453) (rest := []) hW (cmlaysBest s0 D cB cI cJ cD am a1 a2 a3 (upd F 0 0) G tp w oc n (x1 : Int32).toInt64 (x2 : Int32).toInt64 x3 v3 hv3) oX12_laysBest rfl (zT_mem 2070 (by decide +kernel) rfl) (zT_mem 2072 (by decide +kernel) rfl) (zT_mem 86 (by decide +kernel) rfl) rfl rfl (Nat.le_of_ble_eq_true rfl) ⟨by decide, by decide⟩ (by decide +kernel) (fun hm hW hFr2 => ?_)
      replace hFr := hFr.tr hFr2; clear hFr2
      refine zV_eq (st2 := []) rfl rfl rfl rfl ?_
      refine zV_blk (pc' := 39) (lo' := [(0, .ref am), (1, .int x1), (2, .int x2), (3, .int x3), (4, .int x4)]) (st' := [.ref am]) [.aload_n 0] (by decide +kernel) rfl ?_
      refine m_get (idx := 444) (k := 23) (v := .long (v3 23)) hW m_in12 (by decide) (zT_mem 1463 (by decide +kernel) rfl) rfl (by decide +kernel) ?_
      refine zV_blk (pc' := 43) (lo' := [(0, .ref am), (1, .int x1), (2, .int x2), (3, .int x3), (4, .int x4)]) (st' := [.ref am, .long (v3 23)]) [.aload_n 0] (by decide +kernel) rfl ?_
      refine m_get (idx := 447) (k := 24) (v := .long (v3 24)) hW m_in12 (by decide) (zT_mem 1464 (by decide +kernel) rfl) rfl (by decide +kernel) ?_
      refine zV_blk (pc' := 48) (lo' := [(0, .ref am), (1, .int x1), (2, .int x2), (3, .int x3), (4, .int x4)]) (st' := [.int x4, .long (v3 24), .long (v3 23)]) [.iload 4] (by decide +kernel) rfl ?_
      obtain ⟨v4, hv4, h⟩ := zbind h
      refine zV_sC (idx := 286) (rest := []) (cmpartOf s0 D cB cI cJ cD n (v3 23) (v3 24) x4 v4 hv4) oX12_partOf (zT_mem 1733 (by decide +kernel) rfl) (zT_mem 1734 (by decide +kernel) rfl) rfl rfl (Nat.le_of_ble_eq_true rfl) ⟨by decide, by decide⟩ (by decide +kernel) ?_
      refine zV_eq (st2 := [.long v4]) rfl rfl rfl rfl ?_
      obtain rfl := Option.some.inj h
      exact zV_lret rfl (by decide +kernel) (hQ _ rfl hm hW hFr)
    · replace h := zif_neg q h
      clear q
      refine zV_ldc2 (idx := 40) (v := (-1000000000000000)) (zT_mem 1728 (by decide +kernel) rfl) (by decide +kernel) ?_
      obtain rfl := Option.some.inj h
      exact zV_lret rfl (by decide +kernel) (hQ _ rfl hm hW hFr)

def mworks_105 (n : Nat) (G : Nat → Int64) (x10 : Int64) (x12 : Int64) (x18 : Int32) : Option (Int32 × (Nat → Int64)) := some (x18, (vp_updL (vp_updL G 23 x10) 24 x12))
set_option maxHeartbeats 4000000 in
set_option maxRecDepth 100000 in
theorem cmworks_105 (s0 : State) (D : va_G) (cB cI cJ cD : ClassId) (am a1 a2 a3 : Nat) (F : Nat → Int32) (G : Nat → Int64) (tp w oc : Nat → Int32) (n : Nat) (x10 : Int64) (x12 : Int64) (x18 : Int32) {hi hm : zHp} {nx : Nat} {Q : Option Value → zHp → zHp → Nat → Prop} {hm0 : zHp} {x : Int32 × (Nat → Int64)} (hW : mW cB cI am a1 a2 a3 F G tp w oc hm) (hFr : mFr am a1 a2 a3 hm0 hm) (h : mworks_105 n G x10 x12 x18 = some x) (hQ : ∀ r : Int32 × (Nat → Int64), x = r → ∀ hm', mW cB cI am a1 a2 a3 F r.2 tp w oc hm' → mFr am a1 a2 a3 hm0 hm' → Q (some (.int r.1)) hi hm' nx) : zV s0 D (zty cB cI cJ cD) yX12_works cX12_works 25 (some .int) 0 0 0 0 105 [(0, .ref am), (10, .long x10), (12, .long x12), (18, .int x18)] [] hi hm nx Q := by
  unfold mworks_105 at h
  refine zV_blk (pc' := 108) (lo' := [(0, .ref am), (10, .long x10), (12, .long x12), (18, .int x18)]) (st' := [.long x10, .ref am]) [.aload_n 0, .lload 10] (by decide +kernel) rfl ?_
  refine m_put (idx := 444) (k := 23) (v := .long x10) (F' := F) (G' := (vp_updL G 23 x10)) hW m_in12 (by decide) (zT_mem 1463 (by decide +kernel) rfl) rfl rfl rfl rfl (by decide +kernel) (fun hm hW hFr2 => ?_)
  replace hFr := hFr.tr hFr2; clear hFr2
  refine zV_blk (pc' := 114) (lo' := [(0, .ref am), (10, .long x10), (12, .long x12), (18, .int x18)]) (st' := [.long x12, .ref am]) [.aload_n 0, .lload 12] (by decide +kernel) rfl ?_
  refine m_put (idx := 447) (k := 24) (v := .long x12) (F' := F) (G' := (vp_updL (vp_updL G 23 x10) 24 x12)) hW m_in12 (by decide) (zT_mem 1464 (by decide +kernel) rfl) rfl rfl rfl rfl (by decide +kernel) (fun hm hW hFr2 => ?_)
  replace hFr := hFr.tr hFr2; clear hFr2
  refine zV_blk (pc' := 119) (lo' := [(0, .ref am), (10, .long x10), (12, .long x12), (18, .int x18)]) (st' := [.int x18]) [.iload 18] (by decide +kernel) rfl ?_
  obtain rfl := Option.some.inj h
  exact zV_iret rfl (by decide +kernel) (hQ _ rfl hm hW hFr)
def mworks_21 (n : Nat) (x5 : Int32) (s : Int64 × Int64 × Int64 × Int64 × Int64 × Int64 × Int32 × (Nat → Int64)) : Option ((Int64 × Int64 × Int64 × Int64 × Int64 × Int64 × Int32 × (Nat → Int64)) ⊕ (Int32 × (Nat → Int64))) := (if (s.2.1 : Int64) = (0 : Int64) then ((mworks_105 n s.2.2.2.2.2.2.2 s.2.2.1 s.2.2.2.1 s.2.2.2.2.2.2.1).map (fun z => .inr z)) else (if (x5 : Int32) < (s.2.2.2.2.2.2.1 : Int32) then ((mworks_105 n s.2.2.2.2.2.2.2 s.2.2.1 s.2.2.2.1 s.2.2.2.2.2.2.1).map (fun z => .inr z)) else zck (decide (¬ (s.2.1 : Int64) = 0)) (zck (decide (¬ (s.2.1 : Int64) = 0)) (some (.inl (s.2.1, (s.1 - s.1 / s.2.1 * s.2.1), ((((vp_updL s.2.2.2.2.2.2.2 25 (s.1 / s.2.1)) 25) * s.2.2.1) + s.2.2.2.2.1), ((((vp_updL s.2.2.2.2.2.2.2 25 (s.1 / s.2.1)) 25) * s.2.2.2.1) + s.2.2.2.2.2.1), s.2.2.1, s.2.2.2.1, (s.2.2.2.2.2.2.1 + 1), (vp_updL s.2.2.2.2.2.2.2 25 (s.1 / s.2.1))))))))
set_option maxHeartbeats 4000000 in
set_option maxRecDepth 100000 in
theorem cmworks_21 (s0 : State) (D : va_G) (cB cI cJ cD : ClassId) (am a1 a2 a3 : Nat) (F : Nat → Int32) (tp : Nat → Int32) (w : Nat → Int32) (oc : Nat → Int32) (n : Nat) (x5 : Int32) (s : Int64 × Int64 × Int64 × Int64 × Int64 × Int64 × Int32 × (Nat → Int64)) (x : (Int64 × Int64 × Int64 × Int64 × Int64 × Int64 × Int32 × (Nat → Int64)) ⊕ (Int32 × (Nat → Int64))) {hi hm : zHp} {nx : Nat} {Q : Option Value → zHp → zHp → Nat → Prop} {hm0 : zHp} (hW : mW cB cI am a1 a2 a3 F s.2.2.2.2.2.2.2 tp w oc hm) (hFr : mFr am a1 a2 a3 hm0 hm) (h : mworks_21 n x5 s = some x) (hL21 : ∀ s : Int64 × Int64 × Int64 × Int64 × Int64 × Int64 × Int32 × (Nat → Int64), x = (.inl s) → ∀ hm', mW cB cI am a1 a2 a3 F s.2.2.2.2.2.2.2 tp w oc hm' → mFr am a1 a2 a3 hm0 hm' → zV s0 D (zty cB cI cJ cD) yX12_works cX12_works 25 (some .int) 0 0 0 0 21 [(0, .ref am), (5, .int x5), (6, .long s.1), (8, .long s.2.1), (10, .long s.2.2.1), (12, .long s.2.2.2.1), (14, .long s.2.2.2.2.1), (16, .long s.2.2.2.2.2.1), (18, .int s.2.2.2.2.2.2.1)] [] hi hm' nx Q) (hQ : ∀ r : Int32 × (Nat → Int64), x = (.inr r) → ∀ hm', mW cB cI am a1 a2 a3 F r.2 tp w oc hm' → mFr am a1 a2 a3 hm0 hm' → Q (some (.int r.1)) hi hm' nx) : zV s0 D (zty cB cI cJ cD) yX12_works cX12_works 25 (some .int) 0 0 0 0 21 [(0, .ref am), (5, .int x5), (6, .long s.1), (8, .long s.2.1), (10, .long s.2.2.1), (12, .long s.2.2.2.1), (14, .long s.2.2.2.2.1), (16, .long s.2.2.2.2.2.1), (18, .int s.2.2.2.2.2.2.1)] [] hi hm nx Q := by
  unfold mworks_21 at h
  refine zV_blk (pc' := 25) (lo' := [(0, .ref am), (5, .int x5), (6, .long s.1), (8, .long s.2.1), (10, .long s.2.2.1), (12, .long s.2.2.2.1), (14, .long s.2.2.2.2.1), (16, .long s.2.2.2.2.2.1), (18, .int s.2.2.2.2.2.2.1)]) (st' := [.int (lg_cmp s.2.1 0)]) [.lload 8, .lconst 0, .lcmp] (by decide +kernel) rfl ?_
  refine zV_lcmp_eq (tgt := 105) (off := 80) (by decide +kernel) (by decide) (fun q => ?_) (fun q => ?_)
  · replace h := zif_pos q h
    clear q
    obtain ⟨z1, h9, hx⟩ := zmap h
    clear h; subst hx; have h := h9; clear h9
    refine zV_pick (lo2 := [(0, .ref am), (10, .long s.2.2.1), (12, .long s.2.2.2.1), (18, .int s.2.2.2.2.2.2.1)]) [0, 4, 5, 8] rfl ?_
    exact cmworks_105 s0 D cB cI cJ cD am a1 a2 a3 F s.2.2.2.2.2.2.2 tp w oc n s.2.2.1 s.2.2.2.1 s.2.2.2.2.2.2.1 hW hFr h (fun r hr => hQ r (by rw [hr]))
  · replace h := zif_neg q h
    clear q
    refine zV_blk (pc' := 32) (lo' := [(0, .ref am), (5, .int x5), (6, .long s.1), (8, .long s.2.1), (10, .long s.2.2.1), (12, .long s.2.2.2.1), (14, .long s.2.2.2.2.1), (16, .long s.2.2.2.2.2.1), (18, .int s.2.2.2.2.2.2.1)]) (st' := [.int x5, .int s.2.2.2.2.2.2.1]) [.iload 18, .iload 5] (by decide +kernel) rfl ?_
    refine zV_icmp_gt (tgt := 105) (off := 73) (by decide +kernel) (by decide) (fun q => ?_) (fun q => ?_)
    · replace h := zif_pos q h
      clear q
      obtain ⟨z2, h9, hx⟩ := zmap h
      clear h; subst hx; have h := h9; clear h9
      refine zV_pick (lo2 := [(0, .ref am), (10, .long s.2.2.1), (12, .long s.2.2.2.1), (18, .int s.2.2.2.2.2.2.1)]) [0, 4, 5, 8] rfl ?_
      exact cmworks_105 s0 D cB cI cJ cD am a1 a2 a3 F s.2.2.2.2.2.2.2 tp w oc n s.2.2.1 s.2.2.2.1 s.2.2.2.2.2.2.1 hW hFr h (fun r hr => hQ r (by rw [hr]))
    · replace h := zif_neg q h
      clear q
      refine zV_blk (pc' := 40) (lo' := [(0, .ref am), (5, .int x5), (6, .long s.1), (8, .long s.2.1), (10, .long s.2.2.1), (12, .long s.2.2.2.1), (14, .long s.2.2.2.2.1), (16, .long s.2.2.2.2.2.1), (18, .int s.2.2.2.2.2.2.1)]) (st' := [.long s.2.1, .long s.1, .ref am]) [.aload_n 0, .lload 6, .lload 8] (by decide +kernel) rfl ?_
      obtain ⟨hz, h⟩ := zck_some h
      refine zV_ldiv (by decide +kernel) (of_decide_eq_true hz) ?_
      refine m_put (idx := 457) (k := 25) (v := .long (s.1 / s.2.1)) (F' := F) (G' := (vp_updL s.2.2.2.2.2.2.2 25 (s.1 / s.2.1))) hW m_in12 (by decide) (zT_mem 1465 (by decide +kernel) rfl) rfl rfl rfl rfl (by decide +kernel) (fun hm hW hFr2 => ?_)
      replace hFr := hFr.tr hFr2; clear hFr2
      refine zV_blk (pc' := 45) (lo' := [(0, .ref am), (5, .int x5), (6, .long s.1), (8, .long s.2.1), (10, .long s.2.2.1), (12, .long s.2.2.2.1), (14, .long s.2.2.2.2.1), (16, .long s.2.2.2.2.2.1), (18, .int s.2.2.2.2.2.2.1)]) (st' := [.ref am]) [.aload_n 0] (by decide +kernel) rfl ?_
      refine m_get (idx := 457) (k := 25) (v := .long ((vp_updL s.2.2.2.2.2.2.2 25 (s.1 / s.2.1)) 25)) hW m_in12 (by decide) (zT_mem 1465 (by decide +kernel) rfl) rfl (by decide +kernel) ?_
      refine zV_blk (pc' := 57) (lo' := [(19, .long ((((vp_updL s.2.2.2.2.2.2.2 25 (s.1 / s.2.1)) 25) * s.2.2.1) + s.2.2.2.2.1)), (0, .ref am), (5, .int x5), (6, .long s.1), (8, .long s.2.1), (10, .long s.2.2.1), (12, .long s.2.2.2.1), (14, .long s.2.2.2.2.1), (16, .long s.2.2.2.2.2.1), (18, .int s.2.2.2.2.2.2.1)]) (st' := [.ref am]) [.lload 10, .lmul, .lload 14, .ladd, .lstore 19, .aload_n 0] (by decide +kernel) rfl ?_
      refine m_get (idx := 457) (k := 25) (v := .long ((vp_updL s.2.2.2.2.2.2.2 25 (s.1 / s.2.1)) 25)) hW m_in12 (by decide) (zT_mem 1465 (by decide +kernel) rfl) rfl (by decide +kernel) ?_
      refine zV_blk (pc' := 88) (lo' := [(12, .long ((((vp_updL s.2.2.2.2.2.2.2 25 (s.1 / s.2.1)) 25) * s.2.2.2.1) + s.2.2.2.2.2.1)), (10, .long ((((vp_updL s.2.2.2.2.2.2.2 25 (s.1 / s.2.1)) 25) * s.2.2.1) + s.2.2.2.2.1)), (16, .long s.2.2.2.1), (14, .long s.2.2.1), (21, .long ((((vp_updL s.2.2.2.2.2.2.2 25 (s.1 / s.2.1)) 25) * s.2.2.2.1) + s.2.2.2.2.2.1)), (19, .long ((((vp_updL s.2.2.2.2.2.2.2 25 (s.1 / s.2.1)) 25) * s.2.2.1) + s.2.2.2.2.1)), (0, .ref am), (5, .int x5), (6, .long s.1), (8, .long s.2.1), (18, .int s.2.2.2.2.2.2.1)]) (st' := [.long s.2.1, .long s.1]) [.lload 12, .lmul, .lload 16, .ladd, .lstore 21, .lload 10, .lstore 14, .lload 12, .lstore 16, .lload 19, .lstore 10, .lload 21, .lstore 12, .lload 6, .lload 8] (by decide +kernel) rfl ?_
      obtain ⟨hz, h⟩ := zck_some h
      refine zV_lrem (by decide +kernel) (of_decide_eq_true hz) ?_
      refine zV_blk (pc' := 102) (lo' := [(18, .int (s.2.2.2.2.2.2.1 + 1)), (8, .long (s.1 - s.1 / s.2.1 * s.2.1)), (6, .long s.2.1), (23, .long (s.1 - s.1 / s.2.1 * s.2.1)), (12, .long ((((vp_updL s.2.2.2.2.2.2.2 25 (s.1 / s.2.1)) 25) * s.2.2.2.1) + s.2.2.2.2.2.1)), (10, .long ((((vp_updL s.2.2.2.2.2.2.2 25 (s.1 / s.2.1)) 25) * s.2.2.1) + s.2.2.2.2.1)), (16, .long s.2.2.2.1), (14, .long s.2.2.1), (21, .long ((((vp_updL s.2.2.2.2.2.2.2 25 (s.1 / s.2.1)) 25) * s.2.2.2.1) + s.2.2.2.2.2.1)), (19, .long ((((vp_updL s.2.2.2.2.2.2.2 25 (s.1 / s.2.1)) 25) * s.2.2.1) + s.2.2.2.2.1)), (0, .ref am), (5, .int x5)]) (st' := []) [.lstore 23, .lload 8, .lstore 6, .lload 23, .lstore 8, .iinc 18 1] (by decide +kernel) rfl ?_
      refine zV_goto (tgt := 21) (off := -81) (by decide +kernel) (by decide) ?_
      obtain rfl := Option.some.inj h
      refine zV_pick (lo2 := [(0, .ref am), (5, .int x5), (6, .long s.2.1), (8, .long (s.1 - s.1 / s.2.1 * s.2.1)), (10, .long ((((vp_updL s.2.2.2.2.2.2.2 25 (s.1 / s.2.1)) 25) * s.2.2.1) + s.2.2.2.2.1)), (12, .long ((((vp_updL s.2.2.2.2.2.2.2 25 (s.1 / s.2.1)) 25) * s.2.2.2.1) + s.2.2.2.2.2.1)), (14, .long s.2.2.1), (16, .long s.2.2.2.1), (18, .int (s.2.2.2.2.2.2.1 + 1))]) [10, 11, 2, 1, 5, 4, 7, 6, 0] rfl ?_
      exact hL21 _ rfl hm hW hFr
theorem cmworks_21L (s0 : State) (D : va_G) (cB cI cJ cD : ClassId) (am a1 a2 a3 : Nat) (F : Nat → Int32) (tp : Nat → Int32) (w : Nat → Int32) (oc : Nat → Int32) (n : Nat) (x5 : Int32) : ∀ (k : Nat) (s : Int64 × Int64 × Int64 × Int64 × Int64 × Int64 × Int32 × (Nat → Int64)) {hi hm : zHp} {nx : Nat} {Q : Option Value → zHp → zHp → Nat → Prop} {hm0 : zHp} (_ : mW cB cI am a1 a2 a3 F s.2.2.2.2.2.2.2 tp w oc hm) (_ : mFr am a1 a2 a3 hm0 hm) {x : Int32 × (Nat → Int64)} (_ : zloop (mworks_21 n x5) k s = some x) (hQ : ∀ r : Int32 × (Nat → Int64), x = r → ∀ hm', mW cB cI am a1 a2 a3 F r.2 tp w oc hm' → mFr am a1 a2 a3 hm0 hm' → Q (some (.int r.1)) hi hm' nx), zV s0 D (zty cB cI cJ cD) yX12_works cX12_works 25 (some .int) 0 0 0 0 21 [(0, .ref am), (5, .int x5), (6, .long s.1), (8, .long s.2.1), (10, .long s.2.2.1), (12, .long s.2.2.2.1), (14, .long s.2.2.2.2.1), (16, .long s.2.2.2.2.2.1), (18, .int s.2.2.2.2.2.2.1)] [] hi hm nx Q
  | 0, s, _, _, _, _, _, hW, hFr, _, h, _ => by cases h
  | k + 1, s, hi, hm, nx, Q, hm0, hW, hFr, x, h, hQ => by
    obtain ⟨z, hz, h1, h2⟩ := zloop_succ h
    exact cmworks_21 s0 D cB cI cJ cD am a1 a2 a3 F tp w oc n x5 s z hW hFr hz (fun s' hs hm' hW' hFr' => cmworks_21L s0 D cB cI cJ cD am a1 a2 a3 F tp w oc n x5 k s' hW' hFr' (h1 s' hs) hQ) (fun r hr hm' hW' hFr' => hQ r (h2 _ hr).symm hm' hW' hFr')
def mworks (n : Nat) (G : Nat → Int64) (x1 : Int64) (x3 : Int64) (x5 : Int32) : Option (Int32 × (Nat → Int64)) := (zloop (mworks_21 n x5) n (x1, x3, 1, 0, 0, 1, 0, G))
theorem oX12_works : zO yX12_works cX12_works 25 (some .int) 3 := ⟨zT_mem 2081 (by decide +kernel) rfl, zT_mem 94 (by decide +kernel) rfl, by decide +kernel, by decide +kernel, by decide +kernel⟩
set_option maxHeartbeats 4000000 in
set_option maxRecDepth 100000 in
theorem cmworks (s0 : State) (D : va_G) (cB cI cJ cD : ClassId) (am a1 a2 a3 : Nat) (F : Nat → Int32) (G : Nat → Int64) (tp w oc : Nat → Int32) (n : Nat) (x1 : Int64) (x3 : Int64) (x5 : Int32) (x : Int32 × (Nat → Int64)) (h : mworks n G x1 x3 x5 = some x) : mC s0 D cB cI cJ cD am a1 a2 a3 yX12_works cX12_works 25 (some .int) 0 0 [.long x1, .long x3, .int x5] F G tp w oc (some (.int x.1)) F x.2 tp w oc := by
  intro hi hm nx Q hW hQ0
  have hQ : ∀ r : Int32 × (Nat → Int64), x = r → ∀ hm', mW cB cI am a1 a2 a3 F r.2 tp w oc hm' → mFr am a1 a2 a3 hm hm' → Q (some (.int r.1)) hi hm' nx := fun r hr => by subst hr; exact hQ0
  have hFr : mFr am a1 a2 a3 hm hm := mFr.rf
  clear hQ0
  refine zM_of (by decide +kernel) (Nat.le_of_ble_eq_true rfl) ?_
  unfold mworks at h
  refine zV_eq (lo2 := [(0, .ref am), (1, .long x1), (3, .long x3), (5, .int x5)]) rfl rfl rfl rfl ?_
  refine zV_blk (pc' := 21) (lo' := [(18, .int 0), (16, .long 1), (14, .long 0), (12, .long 0), (10, .long 1), (8, .long x3), (6, .long x1), (0, .ref am), (1, .long x1), (3, .long x3), (5, .int x5)]) (st' := []) [.lload_n 1, .lstore 6, .lload_n 3, .lstore 8, .lconst 1, .lstore 10, .lconst 0, .lstore 12, .lconst 0, .lstore 14, .lconst 1, .lstore 16, .iconst 0, .istore 18] (by decide +kernel) rfl ?_
  refine zV_pick (lo2 := [(0, .ref am), (5, .int x5), (6, .long x1), (8, .long x3), (10, .long 1), (12, .long 0), (14, .long 0), (16, .long 1), (18, .int 0)]) [7, 10, 6, 5, 4, 3, 2, 1, 0] rfl ?_
  exact cmworks_21L s0 D cB cI cJ cD am a1 a2 a3 F tp w oc n x5 n (x1, x3, 1, 0, 0, 1, 0, G) hW hFr h hQ

def mterm_39 (n : Nat) (F : Nat → Int32) (G : Nat → Int64) (x3 : Int32) (t1 : Int64) (t2 : Int64) (t3 : Int32) : Option (Int64 × (Nat → Int32) × (Nat → Int64)) := (mworks n G t1 t2 t3).bind (fun v1 => (if (x3 : Int32) = ((-1) : Int32) then some ((v1.1 : Int32).toInt64, F, v1.2) else (if (v1.1 : Int32) = ((x3 + 1) : Int32) then some ((v1.2 25), F, v1.2) else some ((-1000000000000000), F, v1.2))))
set_option maxHeartbeats 4000000 in
set_option maxRecDepth 100000 in
theorem cmterm_39 (s0 : State) (D : va_G) (cB cI cJ cD : ClassId) (am a1 a2 a3 : Nat) (F : Nat → Int32) (G : Nat → Int64) (tp w oc : Nat → Int32) (n : Nat) (x3 : Int32) (t1 : Int64) (t2 : Int64) (t3 : Int32) {hi hm : zHp} {nx : Nat} {Q : Option Value → zHp → zHp → Nat → Prop} {hm0 : zHp} {x : Int64 × (Nat → Int32) × (Nat → Int64)} (hW : mW cB cI am a1 a2 a3 F G tp w oc hm) (hFr : mFr am a1 a2 a3 hm0 hm) (h : mterm_39 n F G x3 t1 t2 t3 = some x) (hQ : ∀ r : Int64 × (Nat → Int32) × (Nat → Int64), x = r → ∀ hm', mW cB cI am a1 a2 a3 r.2.1 r.2.2 tp w oc hm' → mFr am a1 a2 a3 hm0 hm' → Q (some (.long r.1)) hi hm' nx) : zV s0 D (zty cB cI cJ cD) yX12_term cX12_term 5 (some .long) 2 46 0 0 39 [(0, .ref am), (3, .int x3)] [.int t3, .long t2, .long t1, .ref am] hi hm nx Q := by
  unfold mterm_39 at h
  obtain ⟨v1, hv1, h⟩ := zbind h
  refine m_cC (idx := 460) (rest := []) hW (cmworks s0 D cB cI cJ cD am a1 a2 a3 F G tp w oc n t1 t2 t3 v1 hv1) oX12_works rfl (zT_mem 2078 (by decide +kernel) rfl) (zT_mem 2080 (by decide +kernel) rfl) (zT_mem 87 (by decide +kernel) rfl) rfl rfl (Nat.le_of_ble_eq_true rfl) ⟨by decide, by decide⟩ (by decide +kernel) (fun hm hW hFr2 => ?_)
  replace hFr := hFr.tr hFr2; clear hFr2
  refine zV_eq (st2 := [.int v1.1]) rfl rfl rfl rfl ?_
  refine zV_blk (pc' := 46) (lo' := [(4, .int v1.1), (0, .ref am), (3, .int x3)]) (st' := [.int (-1), .int x3]) [.istore 4, .iload_n 3, .iconst (-1)] (by decide +kernel) rfl ?_
  refine zV_icmp_ne (tgt := 55) (off := 9) (by decide +kernel) (by decide) (fun q => ?_) (fun q => ?_)
  · replace h := zif_neg q h
    clear q
    refine zV_blk (pc' := 60) (lo' := [(4, .int v1.1), (0, .ref am), (3, .int x3)]) (st' := [.int (x3 + 1), .int v1.1]) [.iload 4, .iload_n 3, .iconst 1, .iadd] (by decide +kernel) rfl ?_
    refine zV_icmp_ne (tgt := 70) (off := 10) (by decide +kernel) (by decide) (fun q => ?_) (fun q => ?_)
    · replace h := zif_neg q h
      clear q
      refine zV_ldc2 (idx := 40) (v := (-1000000000000000)) (zT_mem 1728 (by decide +kernel) rfl) (by decide +kernel) ?_
      obtain rfl := Option.some.inj h
      exact zV_lret rfl (by decide +kernel) (hQ _ rfl hm hW hFr)
    · replace h := zif_pos q h
      clear q
      refine zV_blk (pc' := 64) (lo' := [(4, .int v1.1), (0, .ref am), (3, .int x3)]) (st' := [.ref am]) [.aload_n 0] (by decide +kernel) rfl ?_
      refine m_get (idx := 457) (k := 25) (v := .long (v1.2 25)) hW m_in12 (by decide) (zT_mem 1465 (by decide +kernel) rfl) rfl (by decide +kernel) ?_
      refine zV_goto (tgt := 73) (off := 6) (by decide +kernel) (by decide) ?_
      obtain rfl := Option.some.inj h
      exact zV_lret rfl (by decide +kernel) (hQ _ rfl hm hW hFr)
  · replace h := zif_pos q h
    clear q
    refine zV_blk (pc' := 52) (lo' := [(4, .int v1.1), (0, .ref am), (3, .int x3)]) (st' := [.long (v1.1 : Int32).toInt64]) [.iload 4, .i2l] (by decide +kernel) rfl ?_
    refine zV_goto (tgt := 73) (off := 21) (by decide +kernel) (by decide) ?_
    obtain rfl := Option.some.inj h
    exact zV_lret rfl (by decide +kernel) (hQ _ rfl hm hW hFr)
def mterm (n : Nat) (F : Nat → Int32) (G : Nat → Int64) (x1 : Int32) (x2 : Int32) (x3 : Int32) : Option (Int64 × (Nat → Int32) × (Nat → Int64)) := (misFraction x1 x2).bind (fun v1 => (if v1 = true then (if ((-1) : Int32) ≤ (x3 : Int32) then (if (x3 : Int32) = ((-1) : Int32) then (mterm_39 n (upd F 0 0) G x3 (x1 : Int32).toInt64 (x2 : Int32).toInt64 1000) else (mterm_39 n (upd F 0 0) G x3 (x1 : Int32).toInt64 (x2 : Int32).toInt64 x3)) else some ((-1000000000000000), (upd F 0 0), G)) else some ((-1000000000000000), (upd F 0 0), G)))
theorem oX12_term : zO yX12_term cX12_term 5 (some .long) 3 := ⟨zT_mem 2077 (by decide +kernel) rfl, zT_mem 94 (by decide +kernel) rfl, by decide +kernel, by decide +kernel, by decide +kernel⟩
set_option maxHeartbeats 4000000 in
set_option maxRecDepth 100000 in
theorem cmterm (s0 : State) (D : va_G) (cB cI cJ cD : ClassId) (am a1 a2 a3 : Nat) (F : Nat → Int32) (G : Nat → Int64) (tp w oc : Nat → Int32) (n : Nat) (x1 : Int32) (x2 : Int32) (x3 : Int32) (x : Int64 × (Nat → Int32) × (Nat → Int64)) (h : mterm n F G x1 x2 x3 = some x) : mC s0 D cB cI cJ cD am a1 a2 a3 yX12_term cX12_term 5 (some .long) 2 46 [.int x1, .int x2, .int x3] F G tp w oc (some (.long x.1)) x.2.1 x.2.2 tp w oc := by
  intro hi hm nx Q hW hQ0
  have hQ : ∀ r : Int64 × (Nat → Int32) × (Nat → Int64), x = r → ∀ hm', mW cB cI am a1 a2 a3 r.2.1 r.2.2 tp w oc hm' → mFr am a1 a2 a3 hm hm' → Q (some (.long r.1)) hi hm' nx := fun r hr => by subst hr; exact hQ0
  have hFr : mFr am a1 a2 a3 hm hm := mFr.rf
  clear hQ0
  refine zM_of (by decide +kernel) (Nat.le_of_ble_eq_true rfl) ?_
  unfold mterm at h
  refine zV_eq (lo2 := [(0, .ref am), (1, .int x1), (2, .int x2), (3, .int x3)]) rfl rfl rfl rfl ?_
  refine zV_blk (pc' := 2) (lo' := [(0, .ref am), (1, .int x1), (2, .int x2), (3, .int x3)]) (st' := [.int 0, .ref am]) [.aload_n 0, .iconst 0] (by decide +kernel) rfl ?_
  refine m_put (idx := 25) (k := 0) (v := .int 0) (F' := (upd F 0 0)) (G' := G) hW m_in12 (by decide) (zT_mem 1440 (by decide +kernel) rfl) rfl rfl rfl rfl (by decide +kernel) (fun hm hW hFr2 => ?_)
  replace hFr := hFr.tr hFr2; clear hFr2
  refine zV_blk (pc' := 7) (lo' := [(0, .ref am), (1, .int x1), (2, .int x2), (3, .int x3)]) (st' := [.int x2, .int x1]) [.iload_n 1, .iload_n 2] (by decide +kernel) rfl ?_
  obtain ⟨v1, hv1, h⟩ := zbind h
  refine zV_sC (idx := 450) (rest := []) (cmisFraction s0 D cB cI cJ cD x1 x2 v1 hv1) oX12_isFraction (zT_mem 2067 (by decide +kernel) rfl) (zT_mem 2068 (by decide +kernel) rfl) rfl rfl (Nat.le_of_ble_eq_true rfl) ⟨by decide, by decide⟩ (by decide +kernel) ?_
  refine zV_eq (st2 := [.int (zb v1)]) rfl rfl rfl rfl ?_
  refine zV_bif_eq (tgt := 18) (off := 8) (by decide +kernel) (by decide) (fun q => ?_) (fun q => ?_)
  · replace h := zif_neg q h
    clear q
    refine zV_ldc2 (idx := 40) (v := (-1000000000000000)) (zT_mem 1728 (by decide +kernel) rfl) (by decide +kernel) ?_
    obtain rfl := Option.some.inj h
    exact zV_lret rfl (by decide +kernel) (hQ _ rfl hm hW hFr)
  · replace h := zif_pos q h
    clear q
    refine zV_blk (pc' := 15) (lo' := [(0, .ref am), (1, .int x1), (2, .int x2), (3, .int x3)]) (st' := [.int (-1), .int x3]) [.iload_n 3, .iconst (-1)] (by decide +kernel) rfl ?_
    refine zV_icmp_ge (tgt := 22) (off := 7) (by decide +kernel) (by decide) (fun q => ?_) (fun q => ?_)
    · replace h := zif_pos q h
      clear q
      refine zV_blk (pc' := 29) (lo' := [(0, .ref am), (1, .int x1), (2, .int x2), (3, .int x3)]) (st' := [.int (-1), .int x3, .long (x2 : Int32).toInt64, .long (x1 : Int32).toInt64, .ref am]) [.aload_n 0, .iload_n 1, .i2l, .iload_n 2, .i2l, .iload_n 3, .iconst (-1)] (by decide +kernel) rfl ?_
      refine zV_icmp_ne (tgt := 38) (off := 9) (by decide +kernel) (by decide) (fun q => ?_) (fun q => ?_)
      · replace h := zif_neg q h
        clear q
        refine zV_blk (pc' := 39) (lo' := [(0, .ref am), (1, .int x1), (2, .int x2), (3, .int x3)]) (st' := [.int x3, .long (x2 : Int32).toInt64, .long (x1 : Int32).toInt64, .ref am]) [.iload_n 3] (by decide +kernel) rfl ?_
        refine zV_pick (lo2 := [(0, .ref am), (3, .int x3)]) [0, 3] rfl ?_
        exact cmterm_39 s0 D cB cI cJ cD am a1 a2 a3 (upd F 0 0) G tp w oc n x3 (x1 : Int32).toInt64 (x2 : Int32).toInt64 x3 hW hFr h hQ
      · replace h := zif_pos q h
        clear q
        refine zV_blk (pc' := 35) (lo' := [(0, .ref am), (1, .int x1), (2, .int x2), (3, .int x3)]) (st' := [.int 1000, .long (x2 : Int32).toInt64, .long (x1 : Int32).toInt64, .ref am]) [.sipush 1000] (by decide +kernel) rfl ?_
        refine zV_goto (tgt := 39) (off := 4) (by decide +kernel) (by decide) ?_
        refine zV_pick (lo2 := [(0, .ref am), (3, .int x3)]) [0, 3] rfl ?_
        exact cmterm_39 s0 D cB cI cJ cD am a1 a2 a3 (upd F 0 0) G tp w oc n x3 (x1 : Int32).toInt64 (x2 : Int32).toInt64 1000 hW hFr h hQ
    · replace h := zif_neg q h
      clear q
      refine zV_ldc2 (idx := 40) (v := (-1000000000000000)) (zT_mem 1728 (by decide +kernel) rfl) (by decide +kernel) ?_
      obtain rfl := Option.some.inj h
      exact zV_lret rfl (by decide +kernel) (hQ _ rfl hm hW hFr)

def mconvergent (n : Nat) (F : Nat → Int32) (G : Nat → Int64) (x1 : Int32) (x2 : Int32) (x3 : Int32) (x4 : Int32) : Option (Int64 × (Nat → Int32) × (Nat → Int64)) := (misFraction x1 x2).bind (fun v1 => (if v1 = true then (misIn (x3 : Int32).toInt64 0 1000).bind (fun v2 => (if v2 = true then (mworks n G (x1 : Int32).toInt64 (x2 : Int32).toInt64 x3).bind (fun v3 => (if (v3.1 : Int32) = ((x3 + 1) : Int32) then (mpartOf n (v3.2 23) (v3.2 24) x4).bind (fun v4 => some (v4, (upd F 0 0), v3.2)) else some ((-1000000000000000), (upd F 0 0), v3.2))) else some ((-1000000000000000), (upd F 0 0), G))) else some ((-1000000000000000), (upd F 0 0), G)))
theorem oX12_convergent : zO yX12_convergent cX12_convergent 5 (some .long) 4 := ⟨zT_mem 2085 (by decide +kernel) rfl, zT_mem 94 (by decide +kernel) rfl, by decide +kernel, by decide +kernel, by decide +kernel⟩
set_option maxHeartbeats 4000000 in
set_option maxRecDepth 100000 in
theorem cmconvergent (s0 : State) (D : va_G) (cB cI cJ cD : ClassId) (am a1 a2 a3 : Nat) (F : Nat → Int32) (G : Nat → Int64) (tp w oc : Nat → Int32) (n : Nat) (x1 : Int32) (x2 : Int32) (x3 : Int32) (x4 : Int32) (x : Int64 × (Nat → Int32) × (Nat → Int64)) (h : mconvergent n F G x1 x2 x3 x4 = some x) : mC s0 D cB cI cJ cD am a1 a2 a3 yX12_convergent cX12_convergent 5 (some .long) 3 76 [.int x1, .int x2, .int x3, .int x4] F G tp w oc (some (.long x.1)) x.2.1 x.2.2 tp w oc := by
  intro hi hm nx Q hW hQ0
  have hQ : ∀ r : Int64 × (Nat → Int32) × (Nat → Int64), x = r → ∀ hm', mW cB cI am a1 a2 a3 r.2.1 r.2.2 tp w oc hm' → mFr am a1 a2 a3 hm hm' → Q (some (.long r.1)) hi hm' nx := fun r hr => by subst hr; exact hQ0
  have hFr : mFr am a1 a2 a3 hm hm := mFr.rf
  clear hQ0
  refine zM_of (by decide +kernel) (Nat.le_of_ble_eq_true rfl) ?_
  unfold mconvergent at h
  refine zV_eq (lo2 := [(0, .ref am), (1, .int x1), (2, .int x2), (3, .int x3), (4, .int x4)]) rfl rfl rfl rfl ?_
  refine zV_blk (pc' := 2) (lo' := [(0, .ref am), (1, .int x1), (2, .int x2), (3, .int x3), (4, .int x4)]) (st' := [.int 0, .ref am]) [.aload_n 0, .iconst 0] (by decide +kernel) rfl ?_
  refine m_put (idx := 25) (k := 0) (v := .int 0) (F' := (upd F 0 0)) (G' := G) hW m_in12 (by decide) (zT_mem 1440 (by decide +kernel) rfl) rfl rfl rfl rfl (by decide +kernel) (fun hm hW hFr2 => ?_)
  replace hFr := hFr.tr hFr2; clear hFr2
  refine zV_blk (pc' := 7) (lo' := [(0, .ref am), (1, .int x1), (2, .int x2), (3, .int x3), (4, .int x4)]) (st' := [.int x2, .int x1]) [.iload_n 1, .iload_n 2] (by decide +kernel) rfl ?_
  obtain ⟨v1, hv1, h⟩ := zbind h
  refine zV_sC (idx := 450) (rest := []) (cmisFraction s0 D cB cI cJ cD x1 x2 v1 hv1) oX12_isFraction (zT_mem 2067 (by decide +kernel) rfl) (zT_mem 2068 (by decide +kernel) rfl) rfl rfl (Nat.le_of_ble_eq_true rfl) ⟨by decide, by decide⟩ (by decide +kernel) ?_
  refine zV_eq (st2 := [.int (zb v1)]) rfl rfl rfl rfl ?_
  refine zV_bif_eq (tgt := 40) (off := 30) (by decide +kernel) (by decide) (fun q => ?_) (fun q => ?_)
  · replace h := zif_neg q h
    clear q
    refine zV_ldc2 (idx := 40) (v := (-1000000000000000)) (zT_mem 1728 (by decide +kernel) rfl) (by decide +kernel) ?_
    obtain rfl := Option.some.inj h
    exact zV_lret rfl (by decide +kernel) (hQ _ rfl hm hW hFr)
  · replace h := zif_pos q h
    clear q
    refine zV_blk (pc' := 16) (lo' := [(0, .ref am), (1, .int x1), (2, .int x2), (3, .int x3), (4, .int x4)]) (st' := [.long 0, .long (x3 : Int32).toInt64]) [.iload_n 3, .i2l, .lconst 0] (by decide +kernel) rfl ?_
    refine zV_ldc2 (idx := 399) (v := 1000) (zT_mem 1983 (by decide +kernel) rfl) (by decide +kernel) ?_
    obtain ⟨v2, hv2, h⟩ := zbind h
    refine zV_sC (idx := 36) (rest := []) (cmisIn s0 D cB cI cJ cD (x3 : Int32).toInt64 0 1000 v2 hv2) oX12_isIn (zT_mem 1531 (by decide +kernel) rfl) (zT_mem 1532 (by decide +kernel) rfl) rfl rfl (Nat.le_of_ble_eq_true rfl) ⟨by decide, by decide⟩ (by decide +kernel) ?_
    refine zV_eq (st2 := [.int (zb v2)]) rfl rfl rfl rfl ?_
    refine zV_bif_eq (tgt := 40) (off := 18) (by decide +kernel) (by decide) (fun q => ?_) (fun q => ?_)
    · replace h := zif_neg q h
      clear q
      refine zV_ldc2 (idx := 40) (v := (-1000000000000000)) (zT_mem 1728 (by decide +kernel) rfl) (by decide +kernel) ?_
      obtain rfl := Option.some.inj h
      exact zV_lret rfl (by decide +kernel) (hQ _ rfl hm hW hFr)
    · replace h := zif_pos q h
      clear q
      refine zV_blk (pc' := 31) (lo' := [(0, .ref am), (1, .int x1), (2, .int x2), (3, .int x3), (4, .int x4)]) (st' := [.int x3, .long (x2 : Int32).toInt64, .long (x1 : Int32).toInt64, .ref am]) [.aload_n 0, .iload_n 1, .i2l, .iload_n 2, .i2l, .iload_n 3] (by decide +kernel) rfl ?_
      obtain ⟨v3, hv3, h⟩ := zbind h
      refine m_cC (idx := 460) (rest := []) hW (cmworks s0 D cB cI cJ cD am a1 a2 a3 (upd F 0 0) G tp w oc n (x1 : Int32).toInt64 (x2 : Int32).toInt64 x3 v3 hv3) oX12_works rfl (zT_mem 2078 (by decide +kernel) rfl) (zT_mem 2080 (by decide +kernel) rfl) (zT_mem 87 (by decide +kernel) rfl) rfl rfl (Nat.le_of_ble_eq_true rfl) ⟨by decide, by decide⟩ (by decide +kernel) (fun hm hW hFr2 => ?_)
      replace hFr := hFr.tr hFr2; clear hFr2
      refine zV_eq (st2 := [.int v3.1]) rfl rfl rfl rfl ?_
      refine zV_blk (pc' := 37) (lo' := [(0, .ref am), (1, .int x1), (2, .int x2), (3, .int x3), (4, .int x4)]) (st' := [.int (x3 + 1), .int v3.1]) [.iload_n 3, .iconst 1, .iadd] (by decide +kernel) rfl ?_
      refine zV_icmp_eq (tgt := 44) (off := 7) (by decide +kernel) (by decide) (fun q => ?_) (fun q => ?_)
      · replace h := zif_pos q h
        clear q
        refine zV_blk (pc' := 45) (lo' := [(0, .ref am), (1, .int x1), (2, .int x2), (3, .int x3), (4, .int x4)]) (st' := [.ref am]) [.aload_n 0] (by decide +kernel) rfl ?_
        refine m_get (idx := 444) (k := 23) (v := .long (v3.2 23)) hW m_in12 (by decide) (zT_mem 1463 (by decide +kernel) rfl) rfl (by decide +kernel) ?_
        refine zV_blk (pc' := 49) (lo' := [(0, .ref am), (1, .int x1), (2, .int x2), (3, .int x3), (4, .int x4)]) (st' := [.ref am, .long (v3.2 23)]) [.aload_n 0] (by decide +kernel) rfl ?_
        refine m_get (idx := 447) (k := 24) (v := .long (v3.2 24)) hW m_in12 (by decide) (zT_mem 1464 (by decide +kernel) rfl) rfl (by decide +kernel) ?_
        refine zV_blk (pc' := 54) (lo' := [(0, .ref am), (1, .int x1), (2, .int x2), (3, .int x3), (4, .int x4)]) (st' := [.int x4, .long (v3.2 24), .long (v3.2 23)]) [.iload 4] (by decide +kernel) rfl ?_
        obtain ⟨v4, hv4, h⟩ := zbind h
        refine zV_sC (idx := 286) (rest := []) (cmpartOf s0 D cB cI cJ cD n (v3.2 23) (v3.2 24) x4 v4 hv4) oX12_partOf (zT_mem 1733 (by decide +kernel) rfl) (zT_mem 1734 (by decide +kernel) rfl) rfl rfl (Nat.le_of_ble_eq_true rfl) ⟨by decide, by decide⟩ (by decide +kernel) ?_
        refine zV_eq (st2 := [.long v4]) rfl rfl rfl rfl ?_
        obtain rfl := Option.some.inj h
        exact zV_lret rfl (by decide +kernel) (hQ _ rfl hm hW hFr)
      · replace h := zif_neg q h
        clear q
        refine zV_ldc2 (idx := 40) (v := (-1000000000000000)) (zT_mem 1728 (by decide +kernel) rfl) (by decide +kernel) ?_
        obtain rfl := Option.some.inj h
        exact zV_lret rfl (by decide +kernel) (hQ _ rfl hm hW hFr)

