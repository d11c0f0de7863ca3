def myearOf_58 (n : Nat) (w : Nat → Int32) (x1 : Int32) (x2 : Int64) (x4 : Int64) (x6 : Int64) : Option ((Int64 × Int64) ⊕ (Int64)) := some (.inl (x4, x6))
set_option maxHeartbeats 4000000 in
set_option maxRecDepth 100000 in
theorem cmyearOf_58 (s0 : State) (D : va_G) (cB cI cJ cD : ClassId) (am a1 a2 a3 : Nat) (F : Nat → Int32) (G : Nat → Int64) (tp w oc : Nat → Int32) (n : Nat) (x1 : Int32) (x2 : Int64) (x4 : Int64) (x6 : Int64) {hi hm : zHp} {nx : Nat} {Q : Option Value → zHp → zHp → Nat → Prop} {x : (Int64 × Int64) ⊕ (Int64)} (hW : mW cB cI am a1 a2 a3 F G tp w oc hm) (h : myearOf_58 n w x1 x2 x4 x6 = some x) (hL10 : ∀ s : Int64 × Int64, x = (.inl s) → zV s0 D (zty cB cI cJ cD) yX12_yearOf cX12_yearOf 10 (some .long) 4 97 0 0 10 [(0, .ref am), (1, .int x1), (2, .long x2), (4, .long s.1), (6, .long s.2)] [] hi hm nx Q) (hQ : ∀ r : Int64, x = (.inr r) → Q (some (.long r)) hi hm nx) : zV s0 D (zty cB cI cJ cD) yX12_yearOf cX12_yearOf 10 (some .long) 4 97 0 0 58 [(0, .ref am), (1, .int x1), (2, .long x2), (4, .long x4), (6, .long x6)] [] hi hm nx Q := by
  unfold myearOf_58 at h
  refine zV_goto (tgt := 10) (off := -48) (by decide +kernel) (by decide) ?_
  obtain rfl := Option.some.inj h
  refine zV_pick (lo2 := [(0, .ref am), (1, .int x1), (2, .long x2), (4, .long x4), (6, .long x6)]) [0, 1, 2, 3, 4] rfl ?_
  exact hL10 _ rfl
def myearOf_10 (n : Nat) (w : Nat → Int32) (x1 : Int32) (x2 : Int64) (s : Int64 × Int64) : Option ((Int64 × Int64) ⊕ (Int64)) := (if (s.2 : Int64) ≤ (s.1 : Int64) then some (.inr s.1) else (mfloor ((s.1 + s.2) + 1) 2).bind (fun v1 => (mstartOf n w x1 v1).bind (fun v2 => (if (x2 : Int64) < (v2 : Int64) then (myearOf_58 n w x1 x2 s.1 (v1 - 1)) else (myearOf_58 n w x1 x2 v1 s.2)))))
set_option maxHeartbeats 4000000 in
set_option maxRecDepth 100000 in
theorem cmyearOf_10 (s0 : State) (D : va_G) (cB cI cJ cD : ClassId) (am a1 a2 a3 : Nat) (F : Nat → Int32) (G : Nat → Int64) (tp : Nat → Int32) (w : Nat → Int32) (oc : Nat → Int32) (n : Nat) (x1 : Int32) (x2 : Int64) (s : Int64 × Int64) (x : (Int64 × Int64) ⊕ (Int64)) {hi hm : zHp} {nx : Nat} {Q : Option Value → zHp → zHp → Nat → Prop} (hW : mW cB cI am a1 a2 a3 F G tp w oc hm) (h : myearOf_10 n w x1 x2 s = some x) (hL10 : ∀ s : Int64 × Int64, x = (.inl s) → zV s0 D (zty cB cI cJ cD) yX12_yearOf cX12_yearOf 10 (some .long) 4 97 0 0 10 [(0, .ref am), (1, .int x1), (2, .long x2), (4, .long s.1), (6, .long s.2)] [] hi hm nx Q) (hQ : ∀ r : Int64, x = (.inr r) → Q (some (.long r)) hi hm nx) : zV s0 D (zty cB cI cJ cD) yX12_yearOf cX12_yearOf 10 (some .long) 4 97 0 0 10 [(0, .ref am), (1, .int x1), (2, .long x2), (4, .long s.1), (6, .long s.2)] [] hi hm nx Q := by
  unfold myearOf_10 at h
  refine zV_blk (pc' := 15) (lo' := [(0, .ref am), (1, .int x1), (2, .long x2), (4, .long s.1), (6, .long s.2)]) (st' := [.int (lg_cmp s.1 s.2)]) [.lload 4, .lload 6, .lcmp] (by decide +kernel) rfl ?_
  refine zV_lcmp_ge (tgt := 61) (off := 46) (by decide +kernel) (by decide) (fun q => ?_) (fun q => ?_)
  · replace h := zif_pos q h
    clear q
    refine zV_blk (pc' := 63) (lo' := [(0, .ref am), (1, .int x1), (2, .long x2), (4, .long s.1), (6, .long s.2)]) (st' := [.long s.1]) [.lload 4] (by decide +kernel) rfl ?_
    obtain rfl := Option.some.inj h
    exact zV_lret rfl (by decide +kernel) (hQ _ rfl)
  · replace h := zif_neg q h
    clear q
    refine zV_blk (pc' := 25) (lo' := [(0, .ref am), (1, .int x1), (2, .long x2), (4, .long s.1), (6, .long s.2)]) (st' := [.long ((s.1 + s.2) + 1)]) [.lload 4, .lload 6, .ladd, .lconst 1, .ladd] (by decide +kernel) rfl ?_
    refine zV_ldc2 (idx := 249) (v := 2) (zT_mem 1859 (by decide +kernel) rfl) (by decide +kernel) ?_
    obtain ⟨v1, hv1, h⟩ := zbind h
    refine zV_sC (idx := 28) (rest := []) (cmfloor s0 D cB cI cJ cD ((s.1 + s.2) + 1) 2 v1 hv1) oX12_floor (zT_mem 1698 (by decide +kernel) rfl) (zT_mem 1699 (by decide +kernel) rfl) rfl rfl (Nat.le_of_ble_eq_true rfl) ⟨by decide, by decide⟩ (by decide +kernel) ?_
    refine zV_eq (st2 := [.long v1]) rfl rfl rfl rfl ?_
    refine zV_blk (pc' := 37) (lo' := [(8, .long v1), (0, .ref am), (1, .int x1), (2, .long x2), (4, .long s.1), (6, .long s.2)]) (st' := [.long v1, .int x1, .ref am]) [.lstore 8, .aload_n 0, .iload_n 1, .lload 8] (by decide +kernel) rfl ?_
    obtain ⟨v2, hv2, h⟩ := zbind h
    refine m_cR (idx := 244) (rest := []) hW (cmstartOf s0 D cB cI cJ cD am a1 a2 a3 F G tp w oc n x1 v1 v2 hv2) oX12_startOf rfl (zT_mem 1742 (by decide +kernel) rfl) (zT_mem 1744 (by decide +kernel) rfl) (zT_mem 56 (by decide +kernel) rfl) rfl rfl (Nat.le_of_ble_eq_true rfl) ⟨by decide, by decide⟩ (by decide +kernel) ?_
    refine zV_eq (st2 := [.long v2]) rfl rfl rfl rfl ?_
    refine zV_blk (pc' := 42) (lo' := [(8, .long v1), (0, .ref am), (1, .int x1), (2, .long x2), (4, .long s.1), (6, .long s.2)]) (st' := [.int (lg_cmp v2 x2)]) [.lload_n 2, .lcmp] (by decide +kernel) rfl ?_
    refine zV_lcmp_gt (tgt := 52) (off := 10) (by decide +kernel) (by decide) (fun q => ?_) (fun q => ?_)
    · replace h := zif_pos q h
      clear q
      refine zV_blk (pc' := 58) (lo' := [(6, .long (v1 - 1)), (8, .long v1), (0, .ref am), (1, .int x1), (2, .long x2), (4, .long s.1)]) (st' := []) [.lload 8, .lconst 1, .lsub, .lstore 6] (by decide +kernel) rfl ?_
      refine zV_pick (lo2 := [(0, .ref am), (1, .int x1), (2, .long x2), (4, .long s.1), (6, .long (v1 - 1))]) [2, 3, 4, 5, 0] rfl ?_
      exact cmyearOf_58 s0 D cB cI cJ cD am a1 a2 a3 F G tp w oc n x1 x2 s.1 (v1 - 1) hW h hL10 hQ
    · replace h := zif_neg q h
      clear q
      refine zV_blk (pc' := 49) (lo' := [(4, .long v1), (8, .long v1), (0, .ref am), (1, .int x1), (2, .long x2), (6, .long s.2)]) (st' := []) [.lload 8, .lstore 4] (by decide +kernel) rfl ?_
      refine zV_goto (tgt := 58) (off := 9) (by decide +kernel) (by decide) ?_
      refine zV_pick (lo2 := [(0, .ref am), (1, .int x1), (2, .long x2), (4, .long v1), (6, .long s.2)]) [2, 3, 4, 0, 5] rfl ?_
      exact cmyearOf_58 s0 D cB cI cJ cD am a1 a2 a3 F G tp w oc n x1 x2 v1 s.2 hW h hL10 hQ
theorem cmyearOf_10L (s0 : State) (D : va_G) (cB cI cJ cD : ClassId) (am a1 a2 a3 : Nat) (F : Nat → Int32) (G : Nat → Int64) (tp : Nat → Int32) (w : Nat → Int32) (oc : Nat → Int32) (n : Nat) (x1 : Int32) (x2 : Int64) : ∀ (k : Nat) (s : Int64 × Int64) {hi hm : zHp} {nx : Nat} {Q : Option Value → zHp → zHp → Nat → Prop} (_ : mW cB cI am a1 a2 a3 F G tp w oc hm) {x : Int64} (_ : zloop (myearOf_10 n w x1 x2) k s = some x) (hQ : ∀ r : Int64, x = r → Q (some (.long r)) hi hm nx), zV s0 D (zty cB cI cJ cD) yX12_yearOf cX12_yearOf 10 (some .long) 4 97 0 0 10 [(0, .ref am), (1, .int x1), (2, .long x2), (4, .long s.1), (6, .long s.2)] [] hi hm nx Q
  | 0, s, _, _, _, _, hW, _, h, _ => by cases h
  | k + 1, s, hi, hm, nx, Q, hW, x, h, hQ => by
    obtain ⟨z, hz, h1, h2⟩ := zloop_succ h
    exact cmyearOf_10 s0 D cB cI cJ cD am a1 a2 a3 F G tp w oc n x1 x2 s z hW hz (fun s' hs => cmyearOf_10L s0 D cB cI cJ cD am a1 a2 a3 F G tp w oc n x1 x2 k s' hW (h1 s' hs) hQ) (fun r hr => hQ r (h2 _ hr).symm)
def myearOf (n : Nat) (w : Nat → Int32) (x1 : Int32) (x2 : Int64) : Option (Int64) := (zloop (myearOf_10 n w x1 x2) n ((-100000), 100000))
theorem oX12_yearOf : zO yX12_yearOf cX12_yearOf 10 (some .long) 2 := ⟨zT_mem 1858 (by decide +kernel) rfl, zT_mem 94 (by decide +kernel) rfl, by decide +kernel, by decide +kernel, by decide +kernel⟩
set_option maxHeartbeats 4000000 in
set_option maxRecDepth 100000 in
theorem cmyearOf (s0 : State) (D : va_G) (cB cI cJ cD : ClassId) (am a1 a2 a3 : Nat) (F : Nat → Int32) (G : Nat → Int64) (tp w oc : Nat → Int32) (n : Nat) (x1 : Int32) (x2 : Int64) (x : Int64) (h : myearOf n w x1 x2 = some x) : mR s0 D cB cI cJ cD am a1 a2 a3 yX12_yearOf cX12_yearOf 10 (some .long) 4 97 [.int x1, .long x2] F G tp w oc (some (.long x)) := by
  intro hi hm nx Q hW hQ0
  have hQ : ∀ r : Int64, x = r → Q (some (.long r)) hi hm nx := fun r hr => by subst hr; exact hQ0
  refine zM_of (by decide +kernel) (Nat.le_of_ble_eq_true rfl) ?_
  unfold myearOf at h
  refine zV_eq (lo2 := [(0, .ref am), (1, .int x1), (2, .long x2)]) rfl rfl rfl rfl ?_
  refine zV_ldc2 (idx := 240) (v := (-100000)) (zT_mem 1820 (by decide +kernel) rfl) (by decide +kernel) ?_
  refine zV_blk (pc' := 5) (lo' := [(4, .long (-100000)), (0, .ref am), (1, .int x1), (2, .long x2)]) (st' := []) [.lstore 4] (by decide +kernel) rfl ?_
  refine zV_ldc2 (idx := 242) (v := 100000) (zT_mem 1821 (by decide +kernel) rfl) (by decide +kernel) ?_
  refine zV_blk (pc' := 10) (lo' := [(6, .long 100000), (4, .long (-100000)), (0, .ref am), (1, .int x1), (2, .long x2)]) (st' := []) [.lstore 6] (by decide +kernel) rfl ?_
  refine zV_pick (lo2 := [(0, .ref am), (1, .int x1), (2, .long x2), (4, .long (-100000)), (6, .long 100000)]) [2, 3, 4, 1, 0] rfl ?_
  exact cmyearOf_10L s0 D cB cI cJ cD am a1 a2 a3 F G tp w oc n x1 x2 n ((-100000), 100000) hW h hQ

def mmonthDays (w : Nat → Int32) (x1 : Int32) (x2 : Int32) (x3 : Int32) : Option (Int32) := zck (zin (((x1 + 24) + x2)) 35802) ((if (x3 : Int32) = (0 : Int32) then some ((w (((x1 + 24) + x2) : Int32).toNatClampNeg) + 0) else zck (zin ((x1 + 5)) 35802) ((if (x2 : Int32) = ((w ((x1 + 5) : Int32).toNatClampNeg) : Int32) then zck (zin ((x1 + 2)) 35802) (some ((w (((x1 + 24) + x2) : Int32).toNatClampNeg) + (w ((x1 + 2) : Int32).toNatClampNeg))) else some ((w (((x1 + 24) + x2) : Int32).toNatClampNeg) + 0)))))
theorem oX12_monthDays : zO yX12_monthDays cX12_monthDays 4 (some .int) 3 := ⟨zT_mem 1723 (by decide +kernel) rfl, zT_mem 94 (by decide +kernel) rfl, by decide +kernel, by decide +kernel, by decide +kernel⟩
set_option maxHeartbeats 4000000 in
set_option maxRecDepth 100000 in
theorem cmmonthDays (s0 : State) (D : va_G) (cB cI cJ cD : ClassId) (am a1 a2 a3 : Nat) (F : Nat → Int32) (G : Nat → Int64) (tp w oc : Nat → Int32) (x1 : Int32) (x2 : Int32) (x3 : Int32) (x : Int32) (h : mmonthDays w x1 x2 x3 = some x) : mR s0 D cB cI cJ cD am a1 a2 a3 yX12_monthDays cX12_monthDays 4 (some .int) 0 0 [.int x1, .int x2, .int x3] F G tp w oc (some (.int x)) := by
  intro hi hm nx Q hW hQ0
  have hQ : ∀ r : Int32, x = r → Q (some (.int r)) hi hm nx := fun r hr => by subst hr; exact hQ0
  refine zM_of (by decide +kernel) (Nat.le_of_ble_eq_true rfl) ?_
  unfold mmonthDays at h
  refine zV_eq (lo2 := [(0, .ref am), (1, .int x1), (2, .int x2), (3, .int x3)]) rfl rfl rfl rfl ?_
  refine zV_blk (pc' := 1) (lo' := [(0, .ref am), (1, .int x1), (2, .int x2), (3, .int x3)]) (st' := [.ref am]) [.aload_n 0] (by decide +kernel) rfl ?_
  refine m_get (idx := 18) (k := 12) (v := .ref a2) hW m_in12 (by decide) (zT_mem 1452 (by decide +kernel) rfl) rfl (by decide +kernel) ?_
  refine zV_blk (pc' := 10) (lo' := [(0, .ref am), (1, .int x1), (2, .int x2), (3, .int x3)]) (st' := [.int ((x1 + 24) + x2), .ref a2]) [.iload_n 1, .bipush 24, .iadd, .iload_n 2, .iadd] (by decide +kernel) rfl ?_
  obtain ⟨hz, h⟩ := zck_some h
  refine m_wld hW hz (by decide +kernel) ?_
  refine zV_blk (pc' := 12) (lo' := [(0, .ref am), (1, .int x1), (2, .int x2), (3, .int x3)]) (st' := [.int x3, .int (w (((x1 + 24) + x2) : Int32).toNatClampNeg)]) [.iload_n 3] (by decide +kernel) rfl ?_
  refine zV_if_eq (tgt := 38) (off := 26) (by decide +kernel) (by decide) (fun q => ?_) (fun q => ?_)
  · replace h := zif_pos q h
    clear q
    refine zV_blk (pc' := 40) (lo' := [(0, .ref am), (1, .int x1), (2, .int x2), (3, .int x3)]) (st' := [.int ((w (((x1 + 24) + x2) : Int32).toNatClampNeg) + 0)]) [.iconst 0, .iadd] (by decide +kernel) rfl ?_
    obtain rfl := Option.some.inj h
    exact zV_iret rfl (by decide +kernel) (hQ _ rfl)
  · replace h := zif_neg q h
    clear q
    refine zV_blk (pc' := 17) (lo' := [(0, .ref am), (1, .int x1), (2, .int x2), (3, .int x3)]) (st' := [.ref am, .int x2, .int (w (((x1 + 24) + x2) : Int32).toNatClampNeg)]) [.iload_n 2, .aload_n 0] (by decide +kernel) rfl ?_
    refine m_get (idx := 18) (k := 12) (v := .ref a2) hW m_in12 (by decide) (zT_mem 1452 (by decide +kernel) rfl) rfl (by decide +kernel) ?_
    refine zV_blk (pc' := 23) (lo' := [(0, .ref am), (1, .int x1), (2, .int x2), (3, .int x3)]) (st' := [.int (x1 + 5), .ref a2, .int x2, .int (w (((x1 + 24) + x2) : Int32).toNatClampNeg)]) [.iload_n 1, .iconst 5, .iadd] (by decide +kernel) rfl ?_
    obtain ⟨hz, h⟩ := zck_some h
    refine m_wld hW hz (by decide +kernel) ?_
    refine zV_icmp_ne (tgt := 38) (off := 14) (by decide +kernel) (by decide) (fun q => ?_) (fun q => ?_)
    · replace h := zif_neg q h
      clear q
      refine zV_blk (pc' := 40) (lo' := [(0, .ref am), (1, .int x1), (2, .int x2), (3, .int x3)]) (st' := [.int ((w (((x1 + 24) + x2) : Int32).toNatClampNeg) + 0)]) [.iconst 0, .iadd] (by decide +kernel) rfl ?_
      obtain rfl := Option.some.inj h
      exact zV_iret rfl (by decide +kernel) (hQ _ rfl)
    · replace h := zif_pos q h
      clear q
      refine zV_blk (pc' := 28) (lo' := [(0, .ref am), (1, .int x1), (2, .int x2), (3, .int x3)]) (st' := [.ref am, .int (w (((x1 + 24) + x2) : Int32).toNatClampNeg)]) [.aload_n 0] (by decide +kernel) rfl ?_
      refine m_get (idx := 18) (k := 12) (v := .ref a2) hW m_in12 (by decide) (zT_mem 1452 (by decide +kernel) rfl) rfl (by decide +kernel) ?_
      refine zV_blk (pc' := 34) (lo' := [(0, .ref am), (1, .int x1), (2, .int x2), (3, .int x3)]) (st' := [.int (x1 + 2), .ref a2, .int (w (((x1 + 24) + x2) : Int32).toNatClampNeg)]) [.iload_n 1, .iconst 2, .iadd] (by decide +kernel) rfl ?_
      obtain ⟨hz, h⟩ := zck_some h
      refine m_wld hW hz (by decide +kernel) ?_
      refine zV_goto (tgt := 39) (off := 4) (by decide +kernel) (by decide) ?_
      refine zV_blk (pc' := 40) (lo' := [(0, .ref am), (1, .int x1), (2, .int x2), (3, .int x3)]) (st' := [.int ((w (((x1 + 24) + x2) : Int32).toNatClampNeg) + (w ((x1 + 2) : Int32).toNatClampNeg))]) [.iadd] (by decide +kernel) rfl ?_
      obtain rfl := Option.some.inj h
      exact zV_iret rfl (by decide +kernel) (hQ _ rfl)

def misMonth (w : Nat → Int32) (x1 : Int32) (x2 : Int32) : Option (Bool) := zck (zin ((x1 + 4)) 35802) ((misIn (x2 : Int32).toInt64 0 (((w ((x1 + 4) : Int32).toNatClampNeg) - 1) : Int32).toInt64).bind (fun v1 => some v1))
theorem oX12_isMonth : zO yX12_isMonth cX12_isMonth 3 (some .boolean) 2 := ⟨zT_mem 1719 (by decide +kernel) rfl, zT_mem 94 (by decide +kernel) rfl, by decide +kernel, by decide +kernel, by decide +kernel⟩
set_option maxHeartbeats 4000000 in
set_option maxRecDepth 100000 in
theorem cmisMonth (s0 : State) (D : va_G) (cB cI cJ cD : ClassId) (am a1 a2 a3 : Nat) (F : Nat → Int32) (G : Nat → Int64) (tp w oc : Nat → Int32) (x1 : Int32) (x2 : Int32) (x : Bool) (h : misMonth w x1 x2 = some x) : mR s0 D cB cI cJ cD am a1 a2 a3 yX12_isMonth cX12_isMonth 3 (some .boolean) 1 25 [.int x1, .int x2] F G tp w oc (some (.int (zb x))) := by
  intro hi hm nx Q hW hQ0
  have hQ : ∀ r : Bool, x = r → Q (some (.int (zb r))) hi hm nx := fun r hr => by subst hr; exact hQ0
  refine zM_of (by decide +kernel) (Nat.le_of_ble_eq_true rfl) ?_
  unfold misMonth at h
  refine zV_eq (lo2 := [(0, .ref am), (1, .int x1), (2, .int x2)]) rfl rfl rfl rfl ?_
  refine zV_blk (pc' := 4) (lo' := [(0, .ref am), (1, .int x1), (2, .int x2)]) (st' := [.ref am, .long 0, .long (x2 : Int32).toInt64]) [.iload_n 2, .i2l, .lconst 0, .aload_n 0] (by decide +kernel) rfl ?_
  refine m_get (idx := 18) (k := 12) (v := .ref a2) hW m_in12 (by decide) (zT_mem 1452 (by decide +kernel) rfl) rfl (by decide +kernel) ?_
  refine zV_blk (pc' := 10) (lo' := [(0, .ref am), (1, .int x1), (2, .int x2)]) (st' := [.int (x1 + 4), .ref a2, .long 0, .long (x2 : Int32).toInt64]) [.iload_n 1, .iconst 4, .iadd] (by decide +kernel) rfl ?_
  obtain ⟨hz, h⟩ := zck_some h
  refine m_wld hW hz (by decide +kernel) ?_
  refine zV_blk (pc' := 14) (lo' := [(0, .ref am), (1, .int x1), (2, .int x2)]) (st' := [.long (((w ((x1 + 4) : Int32).toNatClampNeg) - 1) : Int32).toInt64, .long 0, .long (x2 : Int32).toInt64]) [.iconst 1, .isub, .i2l] (by decide +kernel) rfl ?_
  obtain ⟨v1, hv1, h⟩ := zbind h
  refine zV_sC (idx := 36) (rest := []) (cmisIn s0 D cB cI cJ cD (x2 : Int32).toInt64 0 (((w ((x1 + 4) : Int32).toNatClampNeg) - 1) : Int32).toInt64 v1 hv1) oX12_isIn (zT_mem 1531 (by decide +kernel) rfl) (zT_mem 1532 (by decide +kernel) rfl) rfl rfl (Nat.le_of_ble_eq_true rfl) ⟨by decide, by decide⟩ (by decide +kernel) ?_
  refine zV_eq (st2 := [.int (zb v1)]) rfl rfl rfl rfl ?_
  obtain rfl := Option.some.inj h
  exact zV_bret rfl (by decide +kernel) (hQ _ rfl)

def maheadOf_14 (n : Nat) (w : Nat → Int32) (x1 : Int32) (x4 : Int32) (x5 : Int32) (s : Int32 × Int32) : Option ((Int32 × Int32) ⊕ (Int32)) := (if (x4 : Int32) ≤ (s.2 : Int32) then some (.inr s.1) else (mmonthDays w x1 s.2 x5).bind (fun v1 => some (.inl ((s.1 + v1), (s.2 + 1)))))
set_option maxHeartbeats 4000000 in
set_option maxRecDepth 100000 in
theorem cmaheadOf_14 (s0 : State) (D : va_G) (cB cI cJ cD : ClassId) (am a1 a2 a3 : Nat) (F : Nat → Int32) (G : Nat → Int64) (tp : Nat → Int32) (w : Nat → Int32) (oc : Nat → Int32) (n : Nat) (x1 : Int32) (x4 : Int32) (x5 : Int32) (s : Int32 × Int32) (x : (Int32 × Int32) ⊕ (Int32)) {hi hm : zHp} {nx : Nat} {Q : Option Value → zHp → zHp → Nat → Prop} (hW : mW cB cI am a1 a2 a3 F G tp w oc hm) (h : maheadOf_14 n w x1 x4 x5 s = some x) (hL14 : ∀ s : Int32 × Int32, x = (.inl s) → zV s0 D (zty cB cI cJ cD) yX12_aheadOf cX12_aheadOf 8 (some .int) 3 72 0 0 14 [(0, .ref am), (1, .int x1), (4, .int x4), (5, .int x5), (6, .int s.1), (7, .int s.2)] [] hi hm nx Q) (hQ : ∀ r : Int32, x = (.inr r) → Q (some (.int r)) hi hm nx) : zV s0 D (zty cB cI cJ cD) yX12_aheadOf cX12_aheadOf 8 (some .int) 3 72 0 0 14 [(0, .ref am), (1, .int x1), (4, .int x4), (5, .int x5), (6, .int s.1), (7, .int s.2)] [] hi hm nx Q := by
  unfold maheadOf_14 at h
  refine zV_blk (pc' := 18) (lo' := [(0, .ref am), (1, .int x1), (4, .int x4), (5, .int x5), (6, .int s.1), (7, .int s.2)]) (st' := [.int x4, .int s.2]) [.iload 7, .iload 4] (by decide +kernel) rfl ?_
  refine zV_icmp_ge (tgt := 41) (off := 23) (by decide +kernel) (by decide) (fun q => ?_) (fun q => ?_)
  · replace h := zif_pos q h
    clear q
    refine zV_blk (pc' := 43) (lo' := [(0, .ref am), (1, .int x1), (4, .int x4), (5, .int x5), (6, .int s.1), (7, .int s.2)]) (st' := [.int s.1]) [.iload 6] (by decide +kernel) rfl ?_
    obtain rfl := Option.some.inj h
    exact zV_iret rfl (by decide +kernel) (hQ _ rfl)
  · replace h := zif_neg q h
    clear q
    refine zV_blk (pc' := 29) (lo' := [(0, .ref am), (1, .int x1), (4, .int x4), (5, .int x5), (6, .int s.1), (7, .int s.2)]) (st' := [.int x5, .int s.2, .int x1, .ref am, .int s.1]) [.iload 6, .aload_n 0, .iload_n 1, .iload 7, .iload 5] (by decide +kernel) rfl ?_
    obtain ⟨v1, hv1, h⟩ := zbind h
    refine m_cR (idx := 251) (rest := [.int s.1]) hW (cmmonthDays s0 D cB cI cJ cD am a1 a2 a3 F G tp w oc x1 s.2 x5 v1 hv1) oX12_monthDays rfl (zT_mem 1720 (by decide +kernel) rfl) (zT_mem 1722 (by decide +kernel) rfl) (zT_mem 54 (by decide +kernel) rfl) rfl rfl (Nat.le_of_ble_eq_true rfl) ⟨by decide, by decide⟩ (by decide +kernel) ?_
    refine zV_eq (st2 := [.int v1, .int s.1]) rfl rfl rfl rfl ?_
    refine zV_blk (pc' := 38) (lo' := [(7, .int (s.2 + 1)), (6, .int (s.1 + v1)), (0, .ref am), (1, .int x1), (4, .int x4), (5, .int x5)]) (st' := []) [.iadd, .istore 6, .iinc 7 1] (by decide +kernel) rfl ?_
    refine zV_goto (tgt := 14) (off := -24) (by decide +kernel) (by decide) ?_
    obtain rfl := Option.some.inj h
    refine zV_pick (lo2 := [(0, .ref am), (1, .int x1), (4, .int x4), (5, .int x5), (6, .int (s.1 + v1)), (7, .int (s.2 + 1))]) [2, 3, 4, 5, 1, 0] rfl ?_
    exact hL14 _ rfl
theorem cmaheadOf_14L (s0 : State) (D : va_G) (cB cI cJ cD : ClassId) (am a1 a2 a3 : Nat) (F : Nat → Int32) (G : Nat → Int64) (tp : Nat → Int32) (w : Nat → Int32) (oc : Nat → Int32) (n : Nat) (x1 : Int32) (x4 : Int32) (x5 : Int32) : ∀ (k : Nat) (s : Int32 × Int32) {hi hm : zHp} {nx : Nat} {Q : Option Value → zHp → zHp → Nat → Prop} (_ : mW cB cI am a1 a2 a3 F G tp w oc hm) {x : Int32} (_ : zloop (maheadOf_14 n w x1 x4 x5) k s = some x) (hQ : ∀ r : Int32, x = r → Q (some (.int r)) hi hm nx), zV s0 D (zty cB cI cJ cD) yX12_aheadOf cX12_aheadOf 8 (some .int) 3 72 0 0 14 [(0, .ref am), (1, .int x1), (4, .int x4), (5, .int x5), (6, .int s.1), (7, .int s.2)] [] hi hm nx Q
  | 0, s, _, _, _, _, hW, _, h, _ => by cases h
  | k + 1, s, hi, hm, nx, Q, hW, x, h, hQ => by
    obtain ⟨z, hz, h1, h2⟩ := zloop_succ h
    exact cmaheadOf_14 s0 D cB cI cJ cD am a1 a2 a3 F G tp w oc n x1 x4 x5 s z hW hz (fun s' hs => cmaheadOf_14L s0 D cB cI cJ cD am a1 a2 a3 F G tp w oc n x1 x4 x5 k s' hW (h1 s' hs) hQ) (fun r hr => hQ r (h2 _ hr).symm)
def maheadOf (n : Nat) (w : Nat → Int32) (x1 : Int32) (x2 : Int64) (x4 : Int32) : Option (Int32) := (misLeap n w x1 x2).bind (fun v1 => (zloop (maheadOf_14 n w x1 x4 (zb v1)) n (0, 0)))
theorem oX12_aheadOf : zO yX12_aheadOf cX12_aheadOf 8 (some .int) 3 := ⟨zT_mem 1879 (by decide +kernel) rfl, zT_mem 94 (by decide +kernel) rfl, by decide +kernel, by decide +kernel, by decide +kernel⟩
set_option maxHeartbeats 4000000 in
set_option maxRecDepth 100000 in
theorem cmaheadOf (s0 : State) (D : va_G) (cB cI cJ cD : ClassId) (am a1 a2 a3 : Nat) (F : Nat → Int32) (G : Nat → Int64) (tp w oc : Nat → Int32) (n : Nat) (x1 : Int32) (x2 : Int64) (x4 : Int32) (x : Int32) (h : maheadOf n w x1 x2 x4 = some x) : mR s0 D cB cI cJ cD am a1 a2 a3 yX12_aheadOf cX12_aheadOf 8 (some .int) 3 72 [.int x1, .long x2, .int x4] F G tp w oc (some (.int x)) := by
  intro hi hm nx Q hW hQ0
  have hQ : ∀ r : Int32, x = r → Q (some (.int r)) hi hm nx := fun r hr => by subst hr; exact hQ0
  refine zM_of (by decide +kernel) (Nat.le_of_ble_eq_true rfl) ?_
  unfold maheadOf at h
  refine zV_eq (lo2 := [(0, .ref am), (1, .int x1), (2, .long x2), (4, .int x4)]) rfl rfl rfl rfl ?_
  refine zV_blk (pc' := 3) (lo' := [(0, .ref am), (1, .int x1), (2, .long x2), (4, .int x4)]) (st' := [.long x2, .int x1, .ref am]) [.aload_n 0, .iload_n 1, .lload_n 2] (by decide +kernel) rfl ?_
  obtain ⟨v1, hv1, h⟩ := zbind h
  refine m_cR (idx := 236) (rest := []) hW (cmisLeap s0 D cB cI cJ cD am a1 a2 a3 F G tp w oc n x1 x2 v1 hv1) oX12_isLeap rfl (zT_mem 1805 (by decide +kernel) rfl) (zT_mem 1807 (by decide +kernel) rfl) (zT_mem 64 (by decide +kernel) rfl) rfl rfl (Nat.le_of_ble_eq_true rfl) ⟨by decide, by decide⟩ (by decide +kernel) ?_
  refine zV_eq (st2 := [.int (zb v1)]) rfl rfl rfl rfl ?_
  refine zV_blk (pc' := 14) (lo' := [(7, .int 0), (6, .int 0), (5, .int (zb v1)), (0, .ref am), (1, .int x1), (2, .long x2), (4, .int x4)]) (st' := []) [.istore 5, .iconst 0, .istore 6, .iconst 0, .istore 7] (by decide +kernel) rfl ?_
  refine zV_pick (lo2 := [(0, .ref am), (1, .int x1), (4, .int x4), (5, .int (zb v1)), (6, .int 0), (7, .int 0)]) [3, 4, 6, 2, 1, 0] rfl ?_
  exact cmaheadOf_14L s0 D cB cI cJ cD am a1 a2 a3 F G tp w oc n x1 x4 (zb v1) n (0, 0) hW h hQ

def misDate (n : Nat) (w : Nat → Int32) (x1 : Int32) (x2 : Int64) (x4 : Int32) (x5 : Int32) : Option (Bool) := (misYear x2).bind (fun v1 => (if v1 = true then (misMonth w x1 x4).bind (fun v2 => (if v2 = true then (misLeap n w x1 x2).bind (fun v3 => (mmonthDays w x1 x4 (zb v3)).bind (fun v4 => (misIn (x5 : Int32).toInt64 0 ((v4 - 1) : Int32).toInt64).bind (fun v5 => (if v5 = true then some true else some false)))) else some false)) else some false))
theorem oX12_isDate : zO yX12_isDate cX12_isDate 6 (some .boolean) 4 := ⟨zT_mem 1871 (by decide +kernel) rfl, zT_mem 94 (by decide +kernel) rfl, by decide +kernel, by decide +kernel, by decide +kernel⟩
set_option maxHeartbeats 4000000 in
set_option maxRecDepth 100000 in
theorem cmisDate (s0 : State) (D : va_G) (cB cI cJ cD : ClassId) (am a1 a2 a3 : Nat) (F : Nat → Int32) (G : Nat → Int64) (tp w oc : Nat → Int32) (n : Nat) (x1 : Int32) (x2 : Int64) (x4 : Int32) (x5 : Int32) (x : Bool) (h : misDate n w x1 x2 x4 x5 = some x) : mR s0 D cB cI cJ cD am a1 a2 a3 yX12_isDate cX12_isDate 6 (some .boolean) 3 72 [.int x1, .long x2, .int x4, .int x5] F G tp w oc (some (.int (zb x))) := by
  intro hi hm nx Q hW hQ0
  have hQ : ∀ r : Bool, x = r → Q (some (.int (zb r))) hi hm nx := fun r hr => by subst hr; exact hQ0
  refine zM_of (by decide +kernel) (Nat.le_of_ble_eq_true rfl) ?_
  unfold misDate at h
  refine zV_eq (lo2 := [(0, .ref am), (1, .int x1), (2, .long x2), (4, .int x4), (5, .int x5)]) rfl rfl rfl rfl ?_
  refine zV_blk (pc' := 1) (lo' := [(0, .ref am), (1, .int x1), (2, .long x2), (4, .int x4), (5, .int x5)]) (st' := [.long x2]) [.lload_n 2] (by decide +kernel) rfl ?_
  obtain ⟨v1, hv1, h⟩ := zbind h
  refine zV_sC (idx := 255) (rest := []) (cmisYear s0 D cB cI cJ cD x2 v1 hv1) oX12_isYear (zT_mem 1817 (by decide +kernel) rfl) (zT_mem 1818 (by decide +kernel) rfl) rfl rfl (Nat.le_of_ble_eq_true rfl) ⟨by decide, by decide⟩ (by decide +kernel) ?_
  refine zV_eq (st2 := [.int (zb v1)]) rfl rfl rfl rfl ?_
  refine zV_bif_eq (tgt := 47) (off := 43) (by decide +kernel) (by decide) (fun q => ?_) (fun q => ?_)
  · replace h := zif_neg q h
    clear q
    refine zV_blk (pc' := 48) (lo' := [(0, .ref am), (1, .int x1), (2, .long x2), (4, .int x4), (5, .int x5)]) (st' := [.int 0]) [.iconst 0] (by decide +kernel) rfl ?_
    obtain rfl := Option.some.inj h
    refine zV_eq (st2 := [.int (zb false)]) rfl rfl rfl rfl ?_
    exact zV_bret rfl (by decide +kernel) (hQ _ rfl)
  · replace h := zif_pos q h
    clear q
    refine zV_blk (pc' := 11) (lo' := [(0, .ref am), (1, .int x1), (2, .long x2), (4, .int x4), (5, .int x5)]) (st' := [.int x4, .int x1, .ref am]) [.aload_n 0, .iload_n 1, .iload 4] (by decide +kernel) rfl ?_
    obtain ⟨v2, hv2, h⟩ := zbind h
    refine m_cR (idx := 258) (rest := []) hW (cmisMonth s0 D cB cI cJ cD am a1 a2 a3 F G tp w oc x1 x4 v2 hv2) oX12_isMonth rfl (zT_mem 1716 (by decide +kernel) rfl) (zT_mem 1718 (by decide +kernel) rfl) (zT_mem 53 (by decide +kernel) rfl) rfl rfl (Nat.le_of_ble_eq_true rfl) ⟨by decide, by decide⟩ (by decide +kernel) ?_
    refine zV_eq (st2 := [.int (zb v2)]) rfl rfl rfl rfl ?_
    refine zV_bif_eq (tgt := 47) (off := 33) (by decide +kernel) (by decide) (fun q => ?_) (fun q => ?_)
    · replace h := zif_neg q h
      clear q
      refine zV_blk (pc' := 48) (lo' := [(0, .ref am), (1, .int x1), (2, .long x2), (4, .int x4), (5, .int x5)]) (st' := [.int 0]) [.iconst 0] (by decide +kernel) rfl ?_
      obtain rfl := Option.some.inj h
      refine zV_eq (st2 := [.int (zb false)]) rfl rfl rfl rfl ?_
      exact zV_bret rfl (by decide +kernel) (hQ _ rfl)
    · replace h := zif_pos q h
      clear q
      refine zV_blk (pc' := 28) (lo' := [(0, .ref am), (1, .int x1), (2, .long x2), (4, .int x4), (5, .int x5)]) (st' := [.long x2, .int x1, .ref am, .int x4, .int x1, .ref am, .long 0, .long (x5 : Int32).toInt64]) [.iload 5, .i2l, .lconst 0, .aload_n 0, .iload_n 1, .iload 4, .aload_n 0, .iload_n 1, .lload_n 2] (by decide +kernel) rfl ?_
      obtain ⟨v3, hv3, h⟩ := zbind h
      refine m_cR (idx := 236) (rest := [.int x4, .int x1, .ref am, .long 0, .long (x5 : Int32).toInt64]) hW (cmisLeap s0 D cB cI cJ cD am a1 a2 a3 F G tp w oc n x1 x2 v3 hv3) oX12_isLeap rfl (zT_mem 1805 (by decide +kernel) rfl) (zT_mem 1807 (by decide +kernel) rfl) (zT_mem 64 (by decide +kernel) rfl) rfl rfl (Nat.le_of_ble_eq_true rfl) ⟨by decide, by decide⟩ (by decide +kernel) ?_
      refine zV_eq (st2 := [.int (zb v3), .int x4, .int x1, .ref am, .long 0, .long (x5 : Int32).toInt64]) rfl rfl rfl rfl ?_
      obtain ⟨v4, hv4, h⟩ := zbind h
      refine m_cR (idx := 251) (rest := [.long 0, .long (x5 : Int32).toInt64]) hW (cmmonthDays s0 D cB cI cJ cD am a1 a2 a3 F G tp w oc x1 x4 (zb v3) v4 hv4) oX12_monthDays rfl (zT_mem 1720 (by decide +kernel) rfl) (zT_mem 1722 (by decide +kernel) rfl) (zT_mem 54 (by decide +kernel) rfl) rfl rfl (Nat.le_of_ble_eq_true rfl) ⟨by decide, by decide⟩ (by decide +kernel) ?_
      refine zV_eq (st2 := [.int v4, .long 0, .long (x5 : Int32).toInt64]) rfl rfl rfl rfl ?_
      refine zV_blk (pc' := 37) (lo' := [(0, .ref am), (1, .int x1), (2, .long x2), (4, .int x4), (5, .int x5)]) (st' := [.long ((v4 - 1) : Int32).toInt64, .long 0, .long (x5 : Int32).toInt64]) [.iconst 1, .isub, .i2l] (by decide +kernel) rfl ?_
      obtain ⟨v5, hv5, h⟩ := zbind h
      refine zV_sC (idx := 36) (rest := []) (cmisIn s0 D cB cI cJ cD (x5 : Int32).toInt64 0 ((v4 - 1) : Int32).toInt64 v5 hv5) oX12_isIn (zT_mem 1531 (by decide +kernel) rfl) (zT_mem 1532 (by decide +kernel) rfl) rfl rfl (Nat.le_of_ble_eq_true rfl) ⟨by decide, by decide⟩ (by decide +kernel) ?_
      refine zV_eq (st2 := [.int (zb v5)]) rfl rfl rfl rfl ?_
      refine zV_bif_eq (tgt := 47) (off := 7) (by decide +kernel) (by decide) (fun q => ?_) (fun q => ?_)
      · replace h := zif_neg q h
        clear q
        refine zV_blk (pc' := 48) (lo' := [(0, .ref am), (1, .int x1), (2, .long x2), (4, .int x4), (5, .int x5)]) (st' := [.int 0]) [.iconst 0] (by decide +kernel) rfl ?_
        obtain rfl := Option.some.inj h
        refine zV_eq (st2 := [.int (zb false)]) rfl rfl rfl rfl ?_
        exact zV_bret rfl (by decide +kernel) (hQ _ rfl)
      · replace h := zif_pos q h
        clear q
        refine zV_blk (pc' := 44) (lo' := [(0, .ref am), (1, .int x1), (2, .long x2), (4, .int x4), (5, .int x5)]) (st' := [.int 1]) [.iconst 1] (by decide +kernel) rfl ?_
        refine zV_goto (tgt := 48) (off := 4) (by decide +kernel) (by decide) ?_
        obtain rfl := Option.some.inj h
        refine zV_eq (st2 := [.int (zb true)]) rfl rfl rfl rfl ?_
        exact zV_bret rfl (by decide +kernel) (hQ _ rfl)

def mnumberOf (n : Nat) (w : Nat → Int32) (x1 : Int32) (x2 : Int64) (x4 : Int32) (x5 : Int32) : Option (Int64) := (mstartOf n w x1 x2).bind (fun v1 => (maheadOf n w x1 x2 x4).bind (fun v2 => some ((v1 + (v2 : Int32).toInt64) + (x5 : Int32).toInt64)))
theorem oX12_numberOf : zO yX12_numberOf cX12_numberOf 6 (some .long) 4 := ⟨zT_mem 1875 (by decide +kernel) rfl, zT_mem 94 (by decide +kernel) rfl, by decide +kernel, by decide +kernel, by decide +kernel⟩
set_option maxHeartbeats 4000000 in
set_option maxRecDepth 100000 in
theorem cmnumberOf (s0 : State) (D : va_G) (cB cI cJ cD : ClassId) (am a1 a2 a3 : Nat) (F : Nat → Int32) (G : Nat → Int64) (tp w oc : Nat → Int32) (n : Nat) (x1 : Int32) (x2 : Int64) (x4 : Int32) (x5 : Int32) (x : Int64) (h : mnumberOf n w x1 x2 x4 x5 = some x) : mR s0 D cB cI cJ cD am a1 a2 a3 yX12_numberOf cX12_numberOf 6 (some .long) 4 99 [.int x1, .long x2, .int x4, .int x5] F G tp w oc (some (.long x)) := by
  intro hi hm nx Q hW hQ0
  have hQ : ∀ r : Int64, x = r → Q (some (.long r)) hi hm nx := fun r hr => by subst hr; exact hQ0
  refine zM_of (by decide +kernel) (Nat.le_of_ble_eq_true rfl) ?_
  unfold mnumberOf at h
  refine zV_eq (lo2 := [(0, .ref am), (1, .int x1), (2, .long x2), (4, .int x4), (5, .int x5)]) rfl rfl rfl rfl ?_
  refine zV_blk (pc' := 3) (lo' := [(0, .ref am), (1, .int x1), (2, .long x2), (4, .int x4), (5, .int x5)]) (st' := [.long x2, .int x1, .ref am]) [.aload_n 0, .iload_n 1, .lload_n 2] (by decide +kernel) rfl ?_
  obtain ⟨v1, hv1, h⟩ := zbind h
  refine m_cR (idx := 244) (rest := []) hW (cmstartOf s0 D cB cI cJ cD am a1 a2 a3 F G tp w oc n x1 x2 v1 hv1) oX12_startOf rfl (zT_mem 1742 (by decide +kernel) rfl) (zT_mem 1744 (by decide +kernel) rfl) (zT_mem 56 (by decide +kernel) rfl) rfl rfl (Nat.le_of_ble_eq_true rfl) ⟨by decide, by decide⟩ (by decide +kernel) ?_
  refine zV_eq (st2 := [.long v1]) rfl rfl rfl rfl ?_
  refine zV_blk (pc' := 11) (lo' := [(0, .ref am), (1, .int x1), (2, .long x2), (4, .int x4), (5, .int x5)]) (st' := [.int x4, .long x2, .int x1, .ref am, .long v1]) [.aload_n 0, .iload_n 1, .lload_n 2, .iload 4] (by decide +kernel) rfl ?_
  obtain ⟨v2, hv2, h⟩ := zbind h
  refine m_cR (idx := 262) (rest := [.long v1]) hW (cmaheadOf s0 D cB cI cJ cD am a1 a2 a3 F G tp w oc n x1 x2 x4 v2 hv2) oX12_aheadOf rfl (zT_mem 1876 (by decide +kernel) rfl) (zT_mem 1878 (by decide +kernel) rfl) (zT_mem 72 (by decide +kernel) rfl) rfl rfl (Nat.le_of_ble_eq_true rfl) ⟨by decide, by decide⟩ (by decide +kernel) ?_
  refine zV_eq (st2 := [.int v2, .long v1]) rfl rfl rfl rfl ?_
  refine zV_blk (pc' := 20) (lo' := [(0, .ref am), (1, .int x1), (2, .long x2), (4, .int x4), (5, .int x5)]) (st' := [.long ((v1 + (v2 : Int32).toInt64) + (x5 : Int32).toInt64)]) [.i2l, .ladd, .iload 5, .i2l, .ladd] (by decide +kernel) rfl ?_
  obtain rfl := Option.some.inj h
  exact zV_lret rfl (by decide +kernel) (hQ _ rfl)

def mweekdayOf (w : Nat → Int32) (x1 : Int32) (x2 : Int64) : Option (Int32) := zck (zin ((x1 + 7)) 35802) (zck (zin ((x1 + 6)) 35802) ((mrest (x2 + ((w ((x1 + 7) : Int32).toNatClampNeg) : Int32).toInt64) ((w ((x1 + 6) : Int32).toNatClampNeg) : Int32).toInt64).bind (fun v1 => some (v1 : Int64).toInt32)))
theorem oX12_weekdayOf : zO yX12_weekdayOf cX12_weekdayOf 4 (some .int) 2 := ⟨zT_mem 1863 (by decide +kernel) rfl, zT_mem 94 (by decide +kernel) rfl, by decide +kernel, by decide +kernel, by decide +kernel⟩
set_option maxHeartbeats 4000000 in
set_option maxRecDepth 100000 in
theorem cmweekdayOf (s0 : State) (D : va_G) (cB cI cJ cD : ClassId) (am a1 a2 a3 : Nat) (F : Nat → Int32) (G : Nat → Int64) (tp w oc : Nat → Int32) (x1 : Int32) (x2 : Int64) (x : Int32) (h : mweekdayOf w x1 x2 = some x) : mR s0 D cB cI cJ cD am a1 a2 a3 yX12_weekdayOf cX12_weekdayOf 4 (some .int) 2 48 [.int x1, .long x2] F G tp w oc (some (.int x)) := by
  intro hi hm nx Q hW hQ0
  have hQ : ∀ r : Int32, x = r → Q (some (.int r)) hi hm nx := fun r hr => by subst hr; exact hQ0
  refine zM_of (by decide +kernel) (Nat.le_of_ble_eq_true rfl) ?_
  unfold mweekdayOf at h
  refine zV_eq (lo2 := [(0, .ref am), (1, .int x1), (2, .long x2)]) rfl rfl rfl rfl ?_
  refine zV_blk (pc' := 2) (lo' := [(0, .ref am), (1, .int x1), (2, .long x2)]) (st' := [.ref am, .long x2]) [.lload_n 2, .aload_n 0] (by decide +kernel) rfl ?_
  refine m_get (idx := 18) (k := 12) (v := .ref a2) hW m_in12 (by decide) (zT_mem 1452 (by decide +kernel) rfl) rfl (by decide +kernel) ?_
  refine zV_blk (pc' := 9) (lo' := [(0, .ref am), (1, .int x1), (2, .long x2)]) (st' := [.int (x1 + 7), .ref a2, .long x2]) [.iload_n 1, .bipush 7, .iadd] (by decide +kernel) rfl ?_
  obtain ⟨hz, h⟩ := zck_some h
  refine m_wld hW hz (by decide +kernel) ?_
  refine zV_blk (pc' := 13) (lo' := [(0, .ref am), (1, .int x1), (2, .long x2)]) (st' := [.ref am, .long (x2 + ((w ((x1 + 7) : Int32).toNatClampNeg) : Int32).toInt64)]) [.i2l, .ladd, .aload_n 0] (by decide +kernel) rfl ?_
  refine m_get (idx := 18) (k := 12) (v := .ref a2) hW m_in12 (by decide) (zT_mem 1452 (by decide +kernel) rfl) rfl (by decide +kernel) ?_
  refine zV_blk (pc' := 20) (lo' := [(0, .ref am), (1, .int x1), (2, .long x2)]) (st' := [.int (x1 + 6), .ref a2, .long (x2 + ((w ((x1 + 7) : Int32).toNatClampNeg) : Int32).toInt64)]) [.iload_n 1, .bipush 6, .iadd] (by decide +kernel) rfl ?_
  obtain ⟨hz, h⟩ := zck_some h
  refine m_wld hW hz (by decide +kernel) ?_
  refine zV_blk (pc' := 22) (lo' := [(0, .ref am), (1, .int x1), (2, .long x2)]) (st' := [.long ((w ((x1 + 6) : Int32).toNatClampNeg) : Int32).toInt64, .long (x2 + ((w ((x1 + 7) : Int32).toNatClampNeg) : Int32).toInt64)]) [.i2l] (by decide +kernel) rfl ?_
  obtain ⟨v1, hv1, h⟩ := zbind h
  refine zV_sC (idx := 229) (rest := []) (cmrest s0 D cB cI cJ cD (x2 + ((w ((x1 + 7) : Int32).toNatClampNeg) : Int32).toInt64) ((w ((x1 + 6) : Int32).toNatClampNeg) : Int32).toInt64 v1 hv1) oX12_rest (zT_mem 1701 (by decide +kernel) rfl) (zT_mem 1702 (by decide +kernel) rfl) rfl rfl (Nat.le_of_ble_eq_true rfl) ⟨by decide, by decide⟩ (by decide +kernel) ?_
  refine zV_eq (st2 := [.long v1]) rfl rfl rfl rfl ?_
  refine zV_blk (pc' := 26) (lo' := [(0, .ref am), (1, .int x1), (2, .long x2)]) (st' := [.int (v1 : Int64).toInt32]) [.l2i] (by decide +kernel) rfl ?_
  obtain rfl := Option.some.inj h
  exact zV_iret rfl (by decide +kernel) (hQ _ rfl)

def mdateOf_70 (n : Nat) (w : Nat → Int32) (x1 : Int32) (x4 : Int32) (x10 : Int32) (s : Int32 × Int32) : Option ((Int32 × Int32) ⊕ (Int64)) := (mmonthDays w x1 s.1 x10).bind (fun v1 => (if (s.2 : Int32) < (v1 : Int32) then (if (x4 : Int32) = (2 : Int32) then some (.inr (s.1 : Int32).toInt64) else some (.inr (s.2 : Int32).toInt64)) else (mmonthDays w x1 s.1 x10).bind (fun v2 => some (.inl ((s.1 + 1), (s.2 - v2))))))
set_option maxHeartbeats 4000000 in
set_option maxRecDepth 100000 in
theorem cmdateOf_70 (s0 : State) (D : va_G) (cB cI cJ cD : ClassId) (am a1 a2 a3 : Nat) (F : Nat → Int32) (G : Nat → Int64) (tp : Nat → Int32) (w : Nat → Int32) (oc : Nat → Int32) (n : Nat) (x1 : Int32) (x4 : Int32) (x10 : Int32) (s : Int32 × Int32) (x : (Int32 × Int32) ⊕ (Int64)) {hi hm : zHp} {nx : Nat} {Q : Option Value → zHp → zHp → Nat → Prop} (hW : mW cB cI am a1 a2 a3 F G tp w oc hm) (h : mdateOf_70 n w x1 x4 x10 s = some x) (hL70 : ∀ s : Int32 × Int32, x = (.inl s) → zV s0 D (zty cB cI cJ cD) yX12_dateOf cX12_dateOf 11 (some .long) 5 126 0 0 70 [(0, .ref am), (1, .int x1), (4, .int x4), (8, .int s.1), (9, .int s.2), (10, .int x10)] [] hi hm nx Q) (hQ : ∀ r : Int64, x = (.inr r) → Q (some (.long r)) hi hm nx) : zV s0 D (zty cB cI cJ cD) yX12_dateOf cX12_dateOf 11 (some .long) 5 126 0 0 70 [(0, .ref am), (1, .int x1), (4, .int x4), (8, .int s.1), (9, .int s.2), (10, .int x10)] [] hi hm nx Q := by
  unfold mdateOf_70 at h
  refine zV_blk (pc' := 78) (lo' := [(0, .ref am), (1, .int x1), (4, .int x4), (8, .int s.1), (9, .int s.2), (10, .int x10)]) (st' := [.int x10, .int s.1, .int x1, .ref am, .int s.2]) [.iload 9, .aload_n 0, .iload_n 1, .iload 8, .iload 10] (by decide +kernel) rfl ?_
  obtain ⟨v1, hv1, h⟩ := zbind h
  refine m_cR (idx := 251) (rest := [.int s.2]) hW (cmmonthDays s0 D cB cI cJ cD am a1 a2 a3 F G tp w oc x1 s.1 x10 v1 hv1) oX12_monthDays rfl (zT_mem 1720 (by decide +kernel) rfl) (zT_mem 1722 (by decide +kernel) rfl) (zT_mem 54 (by decide +kernel) rfl) rfl rfl (Nat.le_of_ble_eq_true rfl) ⟨by decide, by decide⟩ (by decide +kernel) ?_
  refine zV_eq (st2 := [.int v1, .int s.2]) rfl rfl rfl rfl ?_
  refine zV_icmp_lt (tgt := 104) (off := 23) (by decide +kernel) (by decide) (fun q => ?_) (fun q => ?_)
  · replace h := zif_pos q h
    clear q
    refine zV_blk (pc' := 107) (lo' := [(0, .ref am), (1, .int x1), (4, .int x4), (8, .int s.1), (9, .int s.2), (10, .int x10)]) (st' := [.int 2, .int x4]) [.iload 4, .iconst 2] (by decide +kernel) rfl ?_
    refine zV_icmp_ne (tgt := 116) (off := 9) (by decide +kernel) (by decide) (fun q => ?_) (fun q => ?_)
    · replace h := zif_neg q h
      clear q
      refine zV_blk (pc' := 119) (lo' := [(0, .ref am), (1, .int x1), (4, .int x4), (8, .int s.1), (9, .int s.2), (10, .int x10)]) (st' := [.long (s.2 : Int32).toInt64]) [.iload 9, .i2l] (by decide +kernel) rfl ?_
      obtain rfl := Option.some.inj h
      exact zV_lret rfl (by decide +kernel) (hQ _ rfl)
    · replace h := zif_pos q h
      clear q
      refine zV_blk (pc' := 113) (lo' := [(0, .ref am), (1, .int x1), (4, .int x4), (8, .int s.1), (9, .int s.2), (10, .int x10)]) (st' := [.long (s.1 : Int32).toInt64]) [.iload 8, .i2l] (by decide +kernel) rfl ?_
      refine zV_goto (tgt := 119) (off := 6) (by decide +kernel) (by decide) ?_
      obtain rfl := Option.some.inj h
      exact zV_lret rfl (by decide +kernel) (hQ _ rfl)
  · replace h := zif_neg q h
    clear q
    refine zV_blk (pc' := 92) (lo' := [(0, .ref am), (1, .int x1), (4, .int x4), (8, .int s.1), (9, .int s.2), (10, .int x10)]) (st' := [.int x10, .int s.1, .int x1, .ref am, .int s.2]) [.iload 9, .aload_n 0, .iload_n 1, .iload 8, .iload 10] (by decide +kernel) rfl ?_
    obtain ⟨v2, hv2, h⟩ := zbind h
    refine m_cR (idx := 251) (rest := [.int s.2]) hW (cmmonthDays s0 D cB cI cJ cD am a1 a2 a3 F G tp w oc x1 s.1 x10 v2 hv2) oX12_monthDays rfl (zT_mem 1720 (by decide +kernel) rfl) (zT_mem 1722 (by decide +kernel) rfl) (zT_mem 54 (by decide +kernel) rfl) rfl rfl (Nat.le_of_ble_eq_true rfl) ⟨by decide, by decide⟩ (by decide +kernel) ?_
    refine zV_eq (st2 := [.int v2, .int s.2]) rfl rfl rfl rfl ?_
    refine zV_blk (pc' := 101) (lo' := [(8, .int (s.1 + 1)), (9, .int (s.2 - v2)), (0, .ref am), (1, .int x1), (4, .int x4), (10, .int x10)]) (st' := []) [.isub, .istore 9, .iinc 8 1] (by decide +kernel) rfl ?_
    refine zV_goto (tgt := 70) (off := -31) (by decide +kernel) (by decide) ?_
    obtain rfl := Option.some.inj h
    refine zV_pick (lo2 := [(0, .ref am), (1, .int x1), (4, .int x4), (8, .int (s.1 + 1)), (9, .int (s.2 - v2)), (10, .int x10)]) [2, 3, 4, 0, 1, 5] rfl ?_
    exact hL70 _ rfl
theorem cmdateOf_70L (s0 : State) (D : va_G) (cB cI cJ cD : ClassId) (am a1 a2 a3 : Nat) (F : Nat → Int32) (G : Nat → Int64) (tp : Nat → Int32) (w : Nat → Int32) (oc : Nat → Int32) (n : Nat) (x1 : Int32) (x4 : Int32) (x10 : Int32) : ∀ (k : Nat) (s : Int32 × Int32) {hi hm : zHp} {nx : Nat} {Q : Option Value → zHp → zHp → Nat → Prop} (_ : mW cB cI am a1 a2 a3 F G tp w oc hm) {x : Int64} (_ : zloop (mdateOf_70 n w x1 x4 x10) k s = some x) (hQ : ∀ r : Int64, x = r → Q (some (.long r)) hi hm nx), zV s0 D (zty cB cI cJ cD) yX12_dateOf cX12_dateOf 11 (some .long) 5 126 0 0 70 [(0, .ref am), (1, .int x1), (4, .int x4), (8, .int s.1), (9, .int s.2), (10, .int x10)] [] hi hm nx Q
  | 0, s, _, _, _, _, hW, _, h, _ => by cases h
  | k + 1, s, hi, hm, nx, Q, hW, x, h, hQ => by
    obtain ⟨z, hz, h1, h2⟩ := zloop_succ h
    exact cmdateOf_70 s0 D cB cI cJ cD am a1 a2 a3 F G tp w oc n x1 x4 x10 s z hW hz (fun s' hs => cmdateOf_70L s0 D cB cI cJ cD am a1 a2 a3 F G tp w oc n x1 x4 x10 k s' hW (h1 s' hs) hQ) (fun r hr => hQ r (h2 _ hr).symm)
def mdateOf (n : Nat) (w : Nat → Int32) (x1 : Int32) (x2 : Int64) (x4 : Int32) : Option (Int64) := (myearOf n w x1 x2).bind (fun v1 => (mstartOf n w x1 v1).bind (fun v2 => (if (x4 : Int32) = (4 : Int32) then (mweekdayOf w x1 x2).bind (fun v4 => some (v4 : Int32).toInt64) else (if (2 : Int32) ≤ (x4 : Int32) then (misLeap n w x1 v1).bind (fun v3 => (zloop (mdateOf_70 n w x1 x4 (zb v3)) n (0, ((x2 - v2) : Int64).toInt32))) else (if (x4 : Int32) = (0 : Int32) then some v1 else some (((x2 - v2) : Int64).toInt32 : Int32).toInt64)))))
theorem oX12_dateOf : zO yX12_dateOf cX12_dateOf 11 (some .long) 3 := ⟨zT_mem 1854 (by decide +kernel) rfl, zT_mem 94 (by decide +kernel) rfl, by decide +kernel, by decide +kernel, by decide +kernel⟩
set_option maxHeartbeats 4000000 in
set_option maxRecDepth 100000 in
theorem cmdateOf (s0 : State) (D : va_G) (cB cI cJ cD : ClassId) (am a1 a2 a3 : Nat) (F : Nat → Int32) (G : Nat → Int64) (tp w oc : Nat → Int32) (n : Nat) (x1 : Int32) (x2 : Int64) (x4 : Int32) (x : Int64) (h : mdateOf n w x1 x2 x4 = some x) : mR s0 D cB cI cJ cD am a1 a2 a3 yX12_dateOf cX12_dateOf 11 (some .long) 5 126 [.int x1, .long x2, .int x4] F G tp w oc (some (.long x)) := by
  intro hi hm nx Q hW hQ0
  have hQ : ∀ r : Int64, x = r → Q (some (.long r)) hi hm nx := fun r hr => by subst hr; exact hQ0
  refine zM_of (by decide +kernel) (Nat.le_of_ble_eq_true rfl) ?_
  unfold mdateOf at h
  refine zV_eq (lo2 := [(0, .ref am), (1, .int x1), (2, .long x2), (4, .int x4)]) rfl rfl rfl rfl ?_
  refine zV_blk (pc' := 3) (lo' := [(0, .ref am), (1, .int x1), (2, .long x2), (4, .int x4)]) (st' := [.long x2, .int x1, .ref am]) [.aload_n 0, .iload_n 1, .lload_n 2] (by decide +kernel) rfl ?_
  obtain ⟨v1, hv1, h⟩ := zbind h
  refine m_cR (idx := 266) (rest := []) hW (cmyearOf s0 D cB cI cJ cD am a1 a2 a3 F G tp w oc n x1 x2 v1 hv1) oX12_yearOf rfl (zT_mem 1855 (by decide +kernel) rfl) (zT_mem 1857 (by decide +kernel) rfl) (zT_mem 68 (by decide +kernel) rfl) rfl rfl (Nat.le_of_ble_eq_true rfl) ⟨by decide, by decide⟩ (by decide +kernel) ?_
  refine zV_eq (st2 := [.long v1]) rfl rfl rfl rfl ?_
  refine zV_blk (pc' := 13) (lo' := [(5, .long v1), (0, .ref am), (1, .int x1), (2, .long x2), (4, .int x4)]) (st' := [.long v1, .int x1, .ref am, .long x2]) [.lstore 5, .lload_n 2, .aload_n 0, .iload_n 1, .lload 5] (by decide +kernel) rfl ?_
  obtain ⟨v2, hv2, h⟩ := zbind h
  refine m_cR (idx := 244) (rest := [.long x2]) hW (cmstartOf s0 D cB cI cJ cD am a1 a2 a3 F G tp w oc n x1 v1 v2 hv2) oX12_startOf rfl (zT_mem 1742 (by decide +kernel) rfl) (zT_mem 1744 (by decide +kernel) rfl) (zT_mem 56 (by decide +kernel) rfl) rfl rfl (Nat.le_of_ble_eq_true rfl) ⟨by decide, by decide⟩ (by decide +kernel) ?_
  refine zV_eq (st2 := [.long v2, .long x2]) rfl rfl rfl rfl ?_
  refine zV_blk (pc' := 23) (lo' := [(7, .int ((x2 - v2) : Int64).toInt32), (5, .long v1), (0, .ref am), (1, .int x1), (2, .long x2), (4, .int x4)]) (st' := [.int 4, .int x4]) [.lsub, .l2i, .istore 7, .iload 4, .iconst 4] (by decide +kernel) rfl ?_
  refine zV_icmp_ne (tgt := 34) (off := 11) (by decide +kernel) (by decide) (fun q => ?_) (fun q => ?_)
  · replace h := zif_neg q h
    clear q
    refine zV_blk (pc' := 37) (lo' := [(7, .int ((x2 - v2) : Int64).toInt32), (5, .long v1), (0, .ref am), (1, .int x1), (2, .long x2), (4, .int x4)]) (st' := [.int 2, .int x4]) [.iload 4, .iconst 2] (by decide +kernel) rfl ?_
    refine zV_icmp_ge (tgt := 54) (off := 17) (by decide +kernel) (by decide) (fun q => ?_) (fun q => ?_)
    · replace h := zif_pos q h
      clear q
      refine zV_blk (pc' := 65) (lo' := [(9, .int ((x2 - v2) : Int64).toInt32), (8, .int 0), (7, .int ((x2 - v2) : Int64).toInt32), (5, .long v1), (0, .ref am), (1, .int x1), (2, .long x2), (4, .int x4)]) (st' := [.long v1, .int x1, .ref am]) [.iconst 0, .istore 8, .iload 7, .istore 9, .aload_n 0, .iload_n 1, .lload 5] (by decide +kernel) rfl ?_
      obtain ⟨v3, hv3, h⟩ := zbind h
      refine m_cR (idx := 236) (rest := []) hW (cmisLeap s0 D cB cI cJ cD am a1 a2 a3 F G tp w oc n x1 v1 v3 hv3) oX12_isLeap rfl (zT_mem 1805 (by decide +kernel) rfl) (zT_mem 1807 (by decide +kernel) rfl) (zT_mem 64 (by decide +kernel) rfl) rfl rfl (Nat.le_of_ble_eq_true rfl) ⟨by decide, by decide⟩ (by decide +kernel) ?_
      refine zV_eq (st2 := [.int (zb v3)]) rfl rfl rfl rfl ?_
      refine zV_blk (pc' := 70) (lo' := [(10, .int (zb v3)), (9, .int ((x2 - v2) : Int64).toInt32), (8, .int 0), (7, .int ((x2 - v2) : Int64).toInt32), (5, .long v1), (0, .ref am), (1, .int x1), (2, .long x2), (4, .int x4)]) (st' := []) [.istore 10] (by decide +kernel) rfl ?_
      refine zV_pick (lo2 := [(0, .ref am), (1, .int x1), (4, .int x4), (8, .int 0), (9, .int ((x2 - v2) : Int64).toInt32), (10, .int (zb v3))]) [5, 6, 8, 2, 1, 0] rfl ?_
      exact cmdateOf_70L s0 D cB cI cJ cD am a1 a2 a3 F G tp w oc n x1 x4 (zb v3) n (0, ((x2 - v2) : Int64).toInt32) hW h hQ
    · replace h := zif_neg q h
      clear q
      refine zV_blk (pc' := 42) (lo' := [(7, .int ((x2 - v2) : Int64).toInt32), (5, .long v1), (0, .ref am), (1, .int x1), (2, .long x2), (4, .int x4)]) (st' := [.int x4]) [.iload 4] (by decide +kernel) rfl ?_
      refine zV_if_ne (tgt := 50) (off := 8) (by decide +kernel) (by decide) (fun q => ?_) (fun q => ?_)
      · replace h := zif_neg q h
        clear q
        refine zV_blk (pc' := 53) (lo' := [(7, .int ((x2 - v2) : Int64).toInt32), (5, .long v1), (0, .ref am), (1, .int x1), (2, .long x2), (4, .int x4)]) (st' := [.long (((x2 - v2) : Int64).toInt32 : Int32).toInt64]) [.iload 7, .i2l] (by decide +kernel) rfl ?_
        obtain rfl := Option.some.inj h
        exact zV_lret rfl (by decide +kernel) (hQ _ rfl)
      · replace h := zif_pos q h
        clear q
        refine zV_blk (pc' := 47) (lo' := [(7, .int ((x2 - v2) : Int64).toInt32), (5, .long v1), (0, .ref am), (1, .int x1), (2, .long x2), (4, .int x4)]) (st' := [.long v1]) [.lload 5] (by decide +kernel) rfl ?_
        refine zV_goto (tgt := 53) (off := 6) (by decide +kernel) (by decide) ?_
        obtain rfl := Option.some.inj h
        exact zV_lret rfl (by decide +kernel) (hQ _ rfl)
  · replace h := zif_pos q h
    clear q
    refine zV_blk (pc' := 29) (lo' := [(7, .int ((x2 - v2) : Int64).toInt32), (5, .long v1), (0, .ref am), (1, .int x1), (2, .long x2), (4, .int x4)]) (st' := [.long x2, .int x1, .ref am]) [.aload_n 0, .iload_n 1, .lload_n 2] (by decide +kernel) rfl ?_
    obtain ⟨v4, hv4, h⟩ := zbind h
    refine m_cR (idx := 269) (rest := []) hW (cmweekdayOf s0 D cB cI cJ cD am a1 a2 a3 F G tp w oc x1 x2 v4 hv4) oX12_weekdayOf rfl (zT_mem 1860 (by decide +kernel) rfl) (zT_mem 1862 (by decide +kernel) rfl) (zT_mem 69 (by decide +kernel) rfl) rfl rfl (Nat.le_of_ble_eq_true rfl) ⟨by decide, by decide⟩ (by decide +kernel) ?_
    refine zV_eq (st2 := [.int v4]) rfl rfl rfl rfl ?_
    refine zV_blk (pc' := 33) (lo' := [(7, .int ((x2 - v2) : Int64).toInt32), (5, .long v1), (0, .ref am), (1, .int x1), (2, .long x2), (4, .int x4)]) (st' := [.long (v4 : Int32).toInt64]) [.i2l] (by decide +kernel) rfl ?_
    obtain rfl := Option.some.inj h
    exact zV_lret rfl (by decide +kernel) (hQ _ rfl)

def mleapsInCycle (n : Nat) (w : Nat → Int32) (x1 : Int32) : Option (Int32) := zck (zin ((x1 + 8)) 35802) ((mleapsTo n w x1 ((w ((x1 + 8) : Int32).toNatClampNeg) : Int32).toInt64).bind (fun v1 => some (v1 : Int64).toInt32))
theorem oX12_leapsInCycle : zO yX12_leapsInCycle cX12_leapsInCycle 2 (some .int) 1 := ⟨zT_mem 1693 (by decide +kernel) rfl, zT_mem 94 (by decide +kernel) rfl, by decide +kernel, by decide +kernel, by decide +kernel⟩
set_option maxHeartbeats 4000000 in
set_option maxRecDepth 100000 in
theorem cmleapsInCycle (s0 : State) (D : va_G) (cB cI cJ cD : ClassId) (am a1 a2 a3 : Nat) (F : Nat → Int32) (G : Nat → Int64) (tp w oc : Nat → Int32) (n : Nat) (x1 : Int32) (x : Int32) (h : mleapsInCycle n w x1 = some x) : mR s0 D cB cI cJ cD am a1 a2 a3 yX12_leapsInCycle cX12_leapsInCycle 2 (some .int) 3 74 [.int x1] F G tp w oc (some (.int x)) := by
  intro hi hm nx Q hW hQ0
  have hQ : ∀ r : Int32, x = r → Q (some (.int r)) hi hm nx := fun r hr => by subst hr; exact hQ0
  refine zM_of (by decide +kernel) (Nat.le_of_ble_eq_true rfl) ?_
  unfold mleapsInCycle at h
  refine zV_eq (lo2 := [(0, .ref am), (1, .int x1)]) rfl rfl rfl rfl ?_
  refine zV_blk (pc' := 3) (lo' := [(0, .ref am), (1, .int x1)]) (st' := [.ref am, .int x1, .ref am]) [.aload_n 0, .iload_n 1, .aload_n 0] (by decide +kernel) rfl ?_
  refine m_get (idx := 18) (k := 12) (v := .ref a2) hW m_in12 (by decide) (zT_mem 1452 (by decide +kernel) rfl) rfl (by decide +kernel) ?_
  refine zV_blk (pc' := 10) (lo' := [(0, .ref am), (1, .int x1)]) (st' := [.int (x1 + 8), .ref a2, .int x1, .ref am]) [.iload_n 1, .bipush 8, .iadd] (by decide +kernel) rfl ?_
  obtain ⟨hz, h⟩ := zck_some h
  refine m_wld hW hz (by decide +kernel) ?_
  refine zV_blk (pc' := 12) (lo' := [(0, .ref am), (1, .int x1)]) (st' := [.long ((w ((x1 + 8) : Int32).toNatClampNeg) : Int32).toInt64, .int x1, .ref am]) [.i2l] (by decide +kernel) rfl ?_
  obtain ⟨v1, hv1, h⟩ := zbind h
  refine m_cR (idx := 232) (rest := []) hW (cmleapsTo s0 D cB cI cJ cD am a1 a2 a3 F G tp w oc n x1 ((w ((x1 + 8) : Int32).toNatClampNeg) : Int32).toInt64 v1 hv1) oX12_leapsTo rfl (zT_mem 1694 (by decide +kernel) rfl) (zT_mem 1696 (by decide +kernel) rfl) (zT_mem 51 (by decide +kernel) rfl) rfl rfl (Nat.le_of_ble_eq_true rfl) ⟨by decide, by decide⟩ (by decide +kernel) ?_
  refine zV_eq (st2 := [.long v1]) rfl rfl rfl rfl ?_
  refine zV_blk (pc' := 16) (lo' := [(0, .ref am), (1, .int x1)]) (st' := [.int (v1 : Int64).toInt32]) [.l2i] (by decide +kernel) rfl ?_
  obtain rfl := Option.some.inj h
  exact zV_iret rfl (by decide +kernel) (hQ _ rfl)

