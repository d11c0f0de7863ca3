def mnext3_66 (n : Nat) (F : Nat → Int32) (w : Nat → Int32) (x1 : Int32) (x4 : Int32) (s : Int32 × Int32) : Option ((Int32 × Int32) ⊕ (Int64 × (Nat → Int32))) := (misYear (s.2 : Int32).toInt64).bind (fun v1 => (if v1 = true then (mbank x1).bind (fun v2 => (misLeap n w v2 (s.2 : Int32).toInt64).bind (fun v3 => (mflag (zb v3)).bind (fun v4 => (if ((s.1 - v4) : Int32) = (0 : Int32) then some (.inr ((s.2 : Int32).toInt64, F)) else some (.inl ((s.1 - v4), (s.2 + x4))))))) else some (.inr ((-1000000000000000), F))))
set_option maxHeartbeats 4000000 in
set_option maxRecDepth 100000 in
theorem cmnext3_66 (s0 : State) (D : va_G) (cB cI cJ cD : ClassId) (am a1 a2 a3 : Nat) (F : Nat → Int32) (G : Nat → Int64) (tp : Nat → Int32) (w : Nat → Int32) (oc : Nat → Int32) (n : Nat) (x1 : Int32) (x4 : Int32) (s : Int32 × Int32) (x : (Int32 × Int32) ⊕ (Int64 × (Nat → Int32))) {hi hm : zHp} {nx : Nat} {Q : Option Value → zHp → zHp → Nat → Prop} {hm0 : zHp} (hW : mW cB cI am a1 a2 a3 F G tp w oc hm) (hFr : mFr am a1 a2 a3 hm0 hm) (h : mnext3_66 n F w x1 x4 s = some x) (hL66 : ∀ s : Int32 × Int32, x = (.inl s) → ∀ hm', mW cB cI am a1 a2 a3 F G tp w oc hm' → mFr am a1 a2 a3 hm0 hm' → zV s0 D (zty cB cI cJ cD) yX12_next_ cX12_next_ 7 (some .long) 3 72 0 0 66 [(0, .ref am), (1, .int x1), (4, .int x4), (5, .int s.1), (6, .int s.2)] [] hi hm' nx Q) (hQ : ∀ r : Int64 × (Nat → Int32), x = (.inr r) → ∀ hm', mW cB cI am a1 a2 a3 r.2 G tp w oc hm' → mFr am a1 a2 a3 hm0 hm' → Q (some (.long r.1)) hi hm' nx) : zV s0 D (zty cB cI cJ cD) yX12_next_ cX12_next_ 7 (some .long) 3 72 0 0 66 [(0, .ref am), (1, .int x1), (4, .int x4), (5, .int s.1), (6, .int s.2)] [] hi hm nx Q := by
  unfold mnext3_66 at h
  refine zV_blk (pc' := 69) (lo' := [(0, .ref am), (1, .int x1), (4, .int x4), (5, .int s.1), (6, .int s.2)]) (st' := [.long (s.2 : Int32).toInt64]) [.iload 6, .i2l] (by decide +kernel) rfl ?_
  obtain ⟨v1, hv1, h⟩ := zbind h
  refine zV_sC (idx := 255) (rest := []) (cmisYear s0 D cB cI cJ cD (s.2 : Int32).toInt64 v1 hv1) oX12_isYear (zT_mem 1817 (by decide +kernel) rfl) (zT_mem 1818 (by decide +kernel) rfl) rfl rfl (Nat.le_of_ble_eq_true rfl) ⟨by decide, by decide⟩ (by decide +kernel) ?_
  refine zV_eq (st2 := [.int (zb v1)]) rfl rfl rfl rfl ?_
  refine zV_bif_eq (tgt := 113) (off := 41) (by decide +kernel) (by decide) (fun q => ?_) (fun q => ?_)
  · replace h := zif_neg q h
    clear q
    refine zV_ldc2 (idx := 40) (v := (-1000000000000000)) (zT_mem 1728 (by decide +kernel) rfl) (by decide +kernel) ?_
    obtain rfl := Option.some.inj h
    exact zV_lret rfl (by decide +kernel) (hQ _ rfl hm hW hFr)
  · replace h := zif_pos q h
    clear q
    refine zV_blk (pc' := 79) (lo' := [(0, .ref am), (1, .int x1), (4, .int x4), (5, .int s.1), (6, .int s.2)]) (st' := [.int x1, .ref am, .int s.1]) [.iload 5, .aload_n 0, .iload_n 1] (by decide +kernel) rfl ?_
    obtain ⟨v2, hv2, h⟩ := zbind h
    refine zV_sC (idx := 118) (rest := [.ref am, .int s.1]) (cmbank s0 D cB cI cJ cD x1 v2 hv2) oX12_bank (zT_mem 1671 (by decide +kernel) rfl) (zT_mem 1672 (by decide +kernel) rfl) rfl rfl (Nat.le_of_ble_eq_true rfl) ⟨by decide, by decide⟩ (by decide +kernel) ?_
    refine zV_eq (st2 := [.int v2, .ref am, .int s.1]) rfl rfl rfl rfl ?_
    refine zV_blk (pc' := 85) (lo' := [(0, .ref am), (1, .int x1), (4, .int x4), (5, .int s.1), (6, .int s.2)]) (st' := [.long (s.2 : Int32).toInt64, .int v2, .ref am, .int s.1]) [.iload 6, .i2l] (by decide +kernel) rfl ?_
    obtain ⟨v3, hv3, h⟩ := zbind h
    refine m_cR (idx := 236) (rest := [.int s.1]) hW (cmisLeap s0 D cB cI cJ cD am a1 a2 a3 F G tp w oc n v2 (s.2 : Int32).toInt64 v3 hv3) oX12_isLeap rfl (zT_mem 1805 (by decide +kernel) rfl) (zT_mem 1807 (by decide +kernel) rfl) (zT_mem 64 (by decide +kernel) rfl) rfl rfl (Nat.le_of_ble_eq_true rfl) ⟨by decide, by decide⟩ (by decide +kernel) ?_
    refine zV_eq (st2 := [.int (zb v3), .int s.1]) rfl rfl rfl rfl ?_
    obtain ⟨v4, hv4, h⟩ := zbind h
    refine zV_sC (idx := 321) (rest := [.int s.1]) (cmflag s0 D cB cI cJ cD (zb v3) v4 hv4) oX12_flag (zT_mem 1822 (by decide +kernel) rfl) (zT_mem 1823 (by decide +kernel) rfl) rfl rfl (Nat.le_of_ble_eq_true rfl) ⟨by decide, by decide⟩ (by decide +kernel) ?_
    refine zV_eq (st2 := [.int v4, .int s.1]) rfl rfl rfl rfl ?_
    refine zV_blk (pc' := 96) (lo' := [(5, .int (s.1 - v4)), (0, .ref am), (1, .int x1), (4, .int x4), (6, .int s.2)]) (st' := [.int (s.1 - v4)]) [.isub, .istore 5, .iload 5] (by decide +kernel) rfl ?_
    refine zV_if_ne (tgt := 103) (off := 7) (by decide +kernel) (by decide) (fun q => ?_) (fun q => ?_)
    · replace h := zif_neg q h
      clear q
      refine zV_blk (pc' := 110) (lo' := [(6, .int (s.2 + x4)), (5, .int (s.1 - v4)), (0, .ref am), (1, .int x1), (4, .int x4)]) (st' := []) [.iload 6, .iload 4, .iadd, .istore 6] (by decide +kernel) rfl ?_
      refine zV_goto (tgt := 66) (off := -44) (by decide +kernel) (by decide) ?_
      obtain rfl := Option.some.inj h
      refine zV_pick (lo2 := [(0, .ref am), (1, .int x1), (4, .int x4), (5, .int (s.1 - v4)), (6, .int (s.2 + x4))]) [2, 3, 4, 1, 0] rfl ?_
      exact hL66 _ rfl hm hW hFr
    · replace h := zif_pos q h
      clear q
      refine zV_blk (pc' := 102) (lo' := [(5, .int (s.1 - v4)), (0, .ref am), (1, .int x1), (4, .int x4), (6, .int s.2)]) (st' := [.long (s.2 : Int32).toInt64]) [.iload 6, .i2l] (by decide +kernel) rfl ?_
      obtain rfl := Option.some.inj h
      exact zV_lret rfl (by decide +kernel) (hQ _ rfl hm hW hFr)
theorem cmnext3_66L (s0 : State) (D : va_G) (cB cI cJ cD : ClassId) (am a1 a2 a3 : Nat) (F : Nat → Int32) (G : Nat → Int64) (tp : Nat → Int32) (w : Nat → Int32) (oc : Nat → Int32) (n : Nat) (x1 : Int32) (x4 : Int32) : ∀ (k : Nat) (s : Int32 × Int32) {hi hm : zHp} {nx : Nat} {Q : Option Value → zHp → zHp → Nat → Prop} {hm0 : zHp} (_ : mW cB cI am a1 a2 a3 F G tp w oc hm) (_ : mFr am a1 a2 a3 hm0 hm) {x : Int64 × (Nat → Int32)} (_ : zloop (mnext3_66 n F w x1 x4) k s = some x) (hQ : ∀ r : Int64 × (Nat → Int32), x = r → ∀ hm', mW cB cI am a1 a2 a3 r.2 G tp w oc hm' → mFr am a1 a2 a3 hm0 hm' → Q (some (.long r.1)) hi hm' nx), zV s0 D (zty cB cI cJ cD) yX12_next_ cX12_next_ 7 (some .long) 3 72 0 0 66 [(0, .ref am), (1, .int x1), (4, .int x4), (5, .int s.1), (6, .int s.2)] [] hi hm nx Q
  | 0, s, _, _, _, _, _, hW, hFr, _, h, _ => by cases h
  | k + 1, s, hi, hm, nx, Q, hm0, hW, hFr, x, h, hQ => by
    obtain ⟨z, hz, h1, h2⟩ := zloop_succ h
    exact cmnext3_66 s0 D cB cI cJ cD am a1 a2 a3 F G tp w oc n x1 x4 s z hW hFr hz (fun s' hs hm' hW' hFr' => cmnext3_66L s0 D cB cI cJ cD am a1 a2 a3 F G tp w oc n x1 x4 k s' hW' hFr' (h1 s' hs) hQ) (fun r hr hm' hW' hFr' => hQ r (h2 _ hr).symm hm' hW' hFr')
def mnext3_52 (n : Nat) (F : Nat → Int32) (w : Nat → Int32) (x1 : Int32) (x2 : Int32) (x3 : Int32) (t0 : Int32) : Option (Int64 × (Nat → Int32)) := (zloop (mnext3_66 n F w x1 t0) n ((x3 * t0), (x2 + t0)))
set_option maxHeartbeats 4000000 in
set_option maxRecDepth 100000 in
theorem cmnext3_52 (s0 : State) (D : va_G) (cB cI cJ cD : ClassId) (am a1 a2 a3 : Nat) (F : Nat → Int32) (G : Nat → Int64) (tp w oc : Nat → Int32) (n : Nat) (x1 : Int32) (x2 : Int32) (x3 : Int32) (t0 : Int32) {hi hm : zHp} {nx : Nat} {Q : Option Value → zHp → zHp → Nat → Prop} {hm0 : zHp} {x : Int64 × (Nat → Int32)} (hW : mW cB cI am a1 a2 a3 F G tp w oc hm) (hFr : mFr am a1 a2 a3 hm0 hm) (h : mnext3_52 n F w x1 x2 x3 t0 = some x) (hQ : ∀ r : Int64 × (Nat → Int32), x = r → ∀ hm', mW cB cI am a1 a2 a3 r.2 G tp w oc hm' → mFr am a1 a2 a3 hm0 hm' → Q (some (.long r.1)) hi hm' nx) : zV s0 D (zty cB cI cJ cD) yX12_next_ cX12_next_ 7 (some .long) 3 72 0 0 52 [(0, .ref am), (1, .int x1), (2, .int x2), (3, .int x3)] [.int t0] hi hm nx Q := by
  unfold mnext3_52 at h
  refine zV_blk (pc' := 66) (lo' := [(6, .int (x2 + t0)), (5, .int (x3 * t0)), (4, .int t0), (0, .ref am), (1, .int x1), (2, .int x2), (3, .int x3)]) (st' := []) [.istore 4, .iload_n 3, .iload 4, .imul, .istore 5, .iload_n 2, .iload 4, .iadd, .istore 6] (by decide +kernel) rfl ?_
  refine zV_pick (lo2 := [(0, .ref am), (1, .int x1), (4, .int t0), (5, .int (x3 * t0)), (6, .int (x2 + t0))]) [3, 4, 2, 1, 0] rfl ?_
  exact cmnext3_66L s0 D cB cI cJ cD am a1 a2 a3 F G tp w oc n x1 t0 n ((x3 * t0), (x2 + t0)) hW hFr h hQ
def mnext3 (n : Nat) (F : Nat → Int32) (w : Nat → Int32) (x1 : Int32) (x2 : Int32) (x3 : Int32) : Option (Int64 × (Nat → Int32)) := (misThere w x1).bind (fun v1 => (if v1 = true then (misYear (x2 : Int32).toInt64).bind (fun v2 => (if v2 = true then (misIn (x3 : Int32).toInt64 (-1000) 1000).bind (fun v3 => (if v3 = true then (if (x3 : Int32) = (0 : Int32) then some ((-1000000000000000), (upd F 0 0)) else (if (x3 : Int32) ≤ (0 : Int32) then (mnext3_52 n (upd F 0 0) w x1 x2 x3 (-1)) else (mnext3_52 n (upd F 0 0) w x1 x2 x3 1))) else some ((-1000000000000000), (upd F 0 0)))) else some ((-1000000000000000), (upd F 0 0)))) else some ((-1000000000000000), (upd F 0 0))))
theorem oX12_next_ : zO yX12_next_ cX12_next_ 7 (some .long) 3 := ⟨zT_mem 1981 (by decide +kernel) rfl, zT_mem 94 (by decide +kernel) rfl, by decide +kernel, by decide +kernel, by decide +kernel⟩
set_option maxHeartbeats 4000000 in
set_option maxRecDepth 100000 in
theorem cmnext3 (s0 : State) (D : va_G) (cB cI cJ cD : ClassId) (am a1 a2 a3 : Nat) (F : Nat → Int32) (G : Nat → Int64) (tp w oc : Nat → Int32) (n : Nat) (x1 : Int32) (x2 : Int32) (x3 : Int32) (x : Int64 × (Nat → Int32)) (h : mnext3 n F w x1 x2 x3 = some x) : mC s0 D cB cI cJ cD am a1 a2 a3 yX12_next_ cX12_next_ 7 (some .long) 3 72 [.int x1, .int x2, .int x3] F G tp w oc (some (.long x.1)) x.2 G tp w oc := by
  intro hi hm nx Q hW hQ0
  have hQ : ∀ r : Int64 × (Nat → Int32), x = r → ∀ hm', mW cB cI am a1 a2 a3 r.2 G tp w oc hm' → mFr am a1 a2 a3 hm hm' → Q (some (.long r.1)) hi hm' nx := fun r hr => by subst hr; exact hQ0
  have hFr : mFr am a1 a2 a3 hm hm := mFr.rf
  clear hQ0
  refine zM_of (by decide +kernel) (Nat.le_of_ble_eq_true rfl) ?_
  unfold mnext3 at h
  refine zV_eq (lo2 := [(0, .ref am), (1, .int x1), (2, .int x2), (3, .int x3)]) rfl rfl rfl rfl ?_
  refine zV_blk (pc' := 2) (lo' := [(0, .ref am), (1, .int x1), (2, .int x2), (3, .int x3)]) (st' := [.int 0, .ref am]) [.aload_n 0, .iconst 0] (by decide +kernel) rfl ?_
  refine m_put (idx := 25) (k := 0) (v := .int 0) (F' := (upd F 0 0)) (G' := G) hW m_in12 (by decide) (zT_mem 1440 (by decide +kernel) rfl) rfl rfl rfl rfl (by decide +kernel) (fun hm hW hFr2 => ?_)
  replace hFr := hFr.tr hFr2; clear hFr2
  refine zV_blk (pc' := 7) (lo' := [(0, .ref am), (1, .int x1), (2, .int x2), (3, .int x3)]) (st' := [.int x1, .ref am]) [.aload_n 0, .iload_n 1] (by decide +kernel) rfl ?_
  obtain ⟨v1, hv1, h⟩ := zbind h
  refine m_cR (idx := 273) (rest := []) hW (cmisThere s0 D cB cI cJ cD am a1 a2 a3 (upd F 0 0) G tp w oc x1 v1 hv1) oX12_isThere rfl (zT_mem 1686 (by decide +kernel) rfl) (zT_mem 1688 (by decide +kernel) rfl) (zT_mem 49 (by decide +kernel) rfl) rfl rfl (Nat.le_of_ble_eq_true rfl) ⟨by decide, by decide⟩ (by decide +kernel) ?_
  refine zV_eq (st2 := [.int (zb v1)]) rfl rfl rfl rfl ?_
  refine zV_bif_eq (tgt := 39) (off := 29) (by decide +kernel) (by decide) (fun q => ?_) (fun q => ?_)
  · replace h := zif_neg q h
    clear q
    refine zV_ldc2 (idx := 40) (v := (-1000000000000000)) (zT_mem 1728 (by decide +kernel) rfl) (by decide +kernel) ?_
    obtain rfl := Option.some.inj h
    exact zV_lret rfl (by decide +kernel) (hQ _ rfl hm hW hFr)
  · replace h := zif_pos q h
    clear q
    refine zV_blk (pc' := 15) (lo' := [(0, .ref am), (1, .int x1), (2, .int x2), (3, .int x3)]) (st' := [.long (x2 : Int32).toInt64]) [.iload_n 2, .i2l] (by decide +kernel) rfl ?_
    obtain ⟨v2, hv2, h⟩ := zbind h
    refine zV_sC (idx := 255) (rest := []) (cmisYear s0 D cB cI cJ cD (x2 : Int32).toInt64 v2 hv2) oX12_isYear (zT_mem 1817 (by decide +kernel) rfl) (zT_mem 1818 (by decide +kernel) rfl) rfl rfl (Nat.le_of_ble_eq_true rfl) ⟨by decide, by decide⟩ (by decide +kernel) ?_
    refine zV_eq (st2 := [.int (zb v2)]) rfl rfl rfl rfl ?_
    refine zV_bif_eq (tgt := 39) (off := 21) (by decide +kernel) (by decide) (fun q => ?_) (fun q => ?_)
    · replace h := zif_neg q h
      clear q
      refine zV_ldc2 (idx := 40) (v := (-1000000000000000)) (zT_mem 1728 (by decide +kernel) rfl) (by decide +kernel) ?_
      obtain rfl := Option.some.inj h
      exact zV_lret rfl (by decide +kernel) (hQ _ rfl hm hW hFr)
    · replace h := zif_pos q h
      clear q
      refine zV_blk (pc' := 23) (lo' := [(0, .ref am), (1, .int x1), (2, .int x2), (3, .int x3)]) (st' := [.long (x3 : Int32).toInt64]) [.iload_n 3, .i2l] (by decide +kernel) rfl ?_
      refine zV_ldc2 (idx := 397) (v := (-1000)) (zT_mem 1982 (by decide +kernel) rfl) (by decide +kernel) ?_
      refine zV_ldc2 (idx := 399) (v := 1000) (zT_mem 1983 (by decide +kernel) rfl) (by decide +kernel) ?_
      obtain ⟨v3, hv3, h⟩ := zbind h
      refine zV_sC (idx := 36) (rest := []) (cmisIn s0 D cB cI cJ cD (x3 : Int32).toInt64 (-1000) 1000 v3 hv3) oX12_isIn (zT_mem 1531 (by decide +kernel) rfl) (zT_mem 1532 (by decide +kernel) rfl) rfl rfl (Nat.le_of_ble_eq_true rfl) ⟨by decide, by decide⟩ (by decide +kernel) ?_
      refine zV_eq (st2 := [.int (zb v3)]) rfl rfl rfl rfl ?_
      refine zV_bif_eq (tgt := 39) (off := 7) (by decide +kernel) (by decide) (fun q => ?_) (fun q => ?_)
      · replace h := zif_neg q h
        clear q
        refine zV_ldc2 (idx := 40) (v := (-1000000000000000)) (zT_mem 1728 (by decide +kernel) rfl) (by decide +kernel) ?_
        obtain rfl := Option.some.inj h
        exact zV_lret rfl (by decide +kernel) (hQ _ rfl hm hW hFr)
      · replace h := zif_pos q h
        clear q
        refine zV_blk (pc' := 36) (lo' := [(0, .ref am), (1, .int x1), (2, .int x2), (3, .int x3)]) (st' := [.int x3]) [.iload_n 3] (by decide +kernel) rfl ?_
        refine zV_if_ne (tgt := 43) (off := 7) (by decide +kernel) (by decide) (fun q => ?_) (fun q => ?_)
        · replace h := zif_neg q h
          clear q
          refine zV_blk (pc' := 44) (lo' := [(0, .ref am), (1, .int x1), (2, .int x2), (3, .int x3)]) (st' := [.int x3]) [.iload_n 3] (by decide +kernel) rfl ?_
          refine zV_if_le (tgt := 51) (off := 7) (by decide +kernel) (by decide) (fun q => ?_) (fun q => ?_)
          · replace h := zif_pos q h
            clear q
            refine zV_blk (pc' := 52) (lo' := [(0, .ref am), (1, .int x1), (2, .int x2), (3, .int x3)]) (st' := [.int (-1)]) [.iconst (-1)] (by decide +kernel) rfl ?_
            refine zV_pick (lo2 := [(0, .ref am), (1, .int x1), (2, .int x2), (3, .int x3)]) [0, 1, 2, 3] rfl ?_
            exact cmnext3_52 s0 D cB cI cJ cD am a1 a2 a3 (upd F 0 0) G tp w oc n x1 x2 x3 (-1) hW hFr h hQ
          · replace h := zif_neg q h
            clear q
            refine zV_blk (pc' := 48) (lo' := [(0, .ref am), (1, .int x1), (2, .int x2), (3, .int x3)]) (st' := [.int 1]) [.iconst 1] (by decide +kernel) rfl ?_
            refine zV_goto (tgt := 52) (off := 4) (by decide +kernel) (by decide) ?_
            refine zV_pick (lo2 := [(0, .ref am), (1, .int x1), (2, .int x2), (3, .int x3)]) [0, 1, 2, 3] rfl ?_
            exact cmnext3_52 s0 D cB cI cJ cD am a1 a2 a3 (upd F 0 0) G tp w oc n x1 x2 x3 1 hW hFr h hQ
        · replace h := zif_pos q h
          clear q
          refine zV_ldc2 (idx := 40) (v := (-1000000000000000)) (zT_mem 1728 (by decide +kernel) rfl) (by decide +kernel) ?_
          obtain rfl := Option.some.inj h
          exact zV_lret rfl (by decide +kernel) (hQ _ rfl hm hW hFr)

def mpattern_64 (n : Nat) (F : Nat → Int32) (w : Nat → Int32) (x1 : Int32) (x2 : Int32) (x3 : Int32) (x4 : Int64) (x6 : Int32) : Option ((Int64 × Int32) ⊕ (Int64 × (Nat → Int32))) := some (.inl (x4, (x6 + 1)))
set_option maxHeartbeats 4000000 in
set_option maxRecDepth 100000 in
theorem cmpattern_64 (s0 : State) (D : va_G) (cB cI cJ cD : ClassId) (am a1 a2 a3 : Nat) (F : Nat → Int32) (G : Nat → Int64) (tp w oc : Nat → Int32) (n : Nat) (x1 : Int32) (x2 : Int32) (x3 : Int32) (x4 : Int64) (x6 : Int32) {hi hm : zHp} {nx : Nat} {Q : Option Value → zHp → zHp → Nat → Prop} {hm0 : zHp} {x : (Int64 × Int32) ⊕ (Int64 × (Nat → Int32))} (hW : mW cB cI am a1 a2 a3 F G tp w oc hm) (hFr : mFr am a1 a2 a3 hm0 hm) (h : mpattern_64 n F w x1 x2 x3 x4 x6 = some x) (hL33 : ∀ s : Int64 × Int32, x = (.inl s) → ∀ hm', mW cB cI am a1 a2 a3 F G tp w oc hm' → mFr am a1 a2 a3 hm0 hm' → zV s0 D (zty cB cI cJ cD) yX12_pattern cX12_pattern 7 (some .long) 3 72 0 0 33 [(0, .ref am), (1, .int x1), (2, .int x2), (3, .int x3), (4, .long s.1), (6, .int s.2)] [] hi hm' nx Q) (hQ : ∀ r : Int64 × (Nat → Int32), x = (.inr r) → ∀ hm', mW cB cI am a1 a2 a3 r.2 G tp w oc hm' → mFr am a1 a2 a3 hm0 hm' → Q (some (.long r.1)) hi hm' nx) : zV s0 D (zty cB cI cJ cD) yX12_pattern cX12_pattern 7 (some .long) 3 72 0 0 64 [(0, .ref am), (1, .int x1), (2, .int x2), (3, .int x3), (4, .long x4), (6, .int x6)] [] hi hm nx Q := by
  unfold mpattern_64 at h
  refine zV_blk (pc' := 67) (lo' := [(6, .int (x6 + 1)), (0, .ref am), (1, .int x1), (2, .int x2), (3, .int x3), (4, .long x4)]) (st' := []) [.iinc 6 1] (by decide +kernel) rfl ?_
  refine zV_goto (tgt := 33) (off := -34) (by decide +kernel) (by decide) ?_
  obtain rfl := Option.some.inj h
  refine zV_pick (lo2 := [(0, .ref am), (1, .int x1), (2, .int x2), (3, .int x3), (4, .long x4), (6, .int (x6 + 1))]) [1, 2, 3, 4, 5, 0] rfl ?_
  exact hL33 _ rfl hm hW hFr
def mpattern_33 (n : Nat) (F : Nat → Int32) (w : Nat → Int32) (x1 : Int32) (x2 : Int32) (x3 : Int32) (s : Int64 × Int32) : Option ((Int64 × Int32) ⊕ (Int64 × (Nat → Int32))) := (if (x3 : Int32) ≤ (s.2 : Int32) then some (.inr (s.1, F)) else (mbank x1).bind (fun v1 => (misLeap n w v1 ((x2 + s.2) : Int32).toInt64).bind (fun v2 => (if v2 = true then (mpattern_64 n F w x1 x2 x3 (s.1 ||| (1 <<< ((s.2 : Int32).toInt64 &&& 63))) s.2) else (mpattern_64 n F w x1 x2 x3 s.1 s.2)))))
set_option maxHeartbeats 4000000 in
set_option maxRecDepth 100000 in
theorem cmpattern_33 (s0 : State) (D : va_G) (cB cI cJ cD : ClassId) (am a1 a2 a3 : Nat) (F : Nat → Int32) (G : Nat → Int64) (tp : Nat → Int32) (w : Nat → Int32) (oc : Nat → Int32) (n : Nat) (x1 : Int32) (x2 : Int32) (x3 : Int32) (s : Int64 × Int32) (x : (Int64 × Int32) ⊕ (Int64 × (Nat → Int32))) {hi hm : zHp} {nx : Nat} {Q : Option Value → zHp → zHp → Nat → Prop} {hm0 : zHp} (hW : mW cB cI am a1 a2 a3 F G tp w oc hm) (hFr : mFr am a1 a2 a3 hm0 hm) (h : mpattern_33 n F w x1 x2 x3 s = some x) (hL33 : ∀ s : Int64 × Int32, x = (.inl s) → ∀ hm', mW cB cI am a1 a2 a3 F G tp w oc hm' → mFr am a1 a2 a3 hm0 hm' → zV s0 D (zty cB cI cJ cD) yX12_pattern cX12_pattern 7 (some .long) 3 72 0 0 33 [(0, .ref am), (1, .int x1), (2, .int x2), (3, .int x3), (4, .long s.1), (6, .int s.2)] [] hi hm' nx Q) (hQ : ∀ r : Int64 × (Nat → Int32), x = (.inr r) → ∀ hm', mW cB cI am a1 a2 a3 r.2 G tp w oc hm' → mFr am a1 a2 a3 hm0 hm' → Q (some (.long r.1)) hi hm' nx) : zV s0 D (zty cB cI cJ cD) yX12_pattern cX12_pattern 7 (some .long) 3 72 0 0 33 [(0, .ref am), (1, .int x1), (2, .int x2), (3, .int x3), (4, .long s.1), (6, .int s.2)] [] hi hm nx Q := by
  unfold mpattern_33 at h
  refine zV_blk (pc' := 36) (lo' := [(0, .ref am), (1, .int x1), (2, .int x2), (3, .int x3), (4, .long s.1), (6, .int s.2)]) (st' := [.int x3, .int s.2]) [.iload 6, .iload_n 3] (by decide +kernel) rfl ?_
  refine zV_icmp_ge (tgt := 70) (off := 34) (by decide +kernel) (by decide) (fun q => ?_) (fun q => ?_)
  · replace h := zif_pos q h
    clear q
    refine zV_blk (pc' := 72) (lo' := [(0, .ref am), (1, .int x1), (2, .int x2), (3, .int x3), (4, .long s.1), (6, .int s.2)]) (st' := [.long s.1]) [.lload 4] (by decide +kernel) rfl ?_
    obtain rfl := Option.some.inj h
    exact zV_lret rfl (by decide +kernel) (hQ _ rfl hm hW hFr)
  · replace h := zif_neg q h
    clear q
    refine zV_blk (pc' := 41) (lo' := [(0, .ref am), (1, .int x1), (2, .int x2), (3, .int x3), (4, .long s.1), (6, .int s.2)]) (st' := [.int x1, .ref am]) [.aload_n 0, .iload_n 1] (by decide +kernel) rfl ?_
    obtain ⟨v1, hv1, h⟩ := zbind h
    refine zV_sC (idx := 118) (rest := [.ref am]) (cmbank s0 D cB cI cJ cD x1 v1 hv1) oX12_bank (zT_mem 1671 (by decide +kernel) rfl) (zT_mem 1672 (by decide +kernel) rfl) rfl rfl (Nat.le_of_ble_eq_true rfl) ⟨by decide, by decide⟩ (by decide +kernel) ?_
    refine zV_eq (st2 := [.int v1, .ref am]) rfl rfl rfl rfl ?_
    refine zV_blk (pc' := 49) (lo' := [(0, .ref am), (1, .int x1), (2, .int x2), (3, .int x3), (4, .long s.1), (6, .int s.2)]) (st' := [.long ((x2 + s.2) : Int32).toInt64, .int v1, .ref am]) [.iload_n 2, .iload 6, .iadd, .i2l] (by decide +kernel) rfl ?_
    obtain ⟨v2, hv2, h⟩ := zbind h
    refine m_cR (idx := 236) (rest := []) hW (cmisLeap s0 D cB cI cJ cD am a1 a2 a3 F G tp w oc n v1 ((x2 + s.2) : Int32).toInt64 v2 hv2) oX12_isLeap rfl (zT_mem 1805 (by decide +kernel) rfl) (zT_mem 1807 (by decide +kernel) rfl) (zT_mem 64 (by decide +kernel) rfl) rfl rfl (Nat.le_of_ble_eq_true rfl) ⟨by decide, by decide⟩ (by decide +kernel) ?_
    refine zV_eq (st2 := [.int (zb v2)]) rfl rfl rfl rfl ?_
    refine zV_bif_eq (tgt := 64) (off := 12) (by decide +kernel) (by decide) (fun q => ?_) (fun q => ?_)
    · replace h := zif_neg q h
      clear q
      refine zV_pick (lo2 := [(0, .ref am), (1, .int x1), (2, .int x2), (3, .int x3), (4, .long s.1), (6, .int s.2)]) [0, 1, 2, 3, 4, 5] rfl ?_
      exact cmpattern_64 s0 D cB cI cJ cD am a1 a2 a3 F G tp w oc n x1 x2 x3 s.1 s.2 hW hFr h hL33 hQ
    · replace h := zif_pos q h
      clear q
      refine zV_blk (pc' := 64) (lo' := [(4, .long (s.1 ||| (1 <<< ((s.2 : Int32).toInt64 &&& 63)))), (0, .ref am), (1, .int x1), (2, .int x2), (3, .int x3), (6, .int s.2)]) (st' := []) [.lload 4, .lconst 1, .iload 6, .lshl, .lor, .lstore 4] (by decide +kernel) rfl ?_
      refine zV_pick (lo2 := [(0, .ref am), (1, .int x1), (2, .int x2), (3, .int x3), (4, .long (s.1 ||| (1 <<< ((s.2 : Int32).toInt64 &&& 63)))), (6, .int s.2)]) [1, 2, 3, 4, 0, 5] rfl ?_
      exact cmpattern_64 s0 D cB cI cJ cD am a1 a2 a3 F G tp w oc n x1 x2 x3 (s.1 ||| (1 <<< ((s.2 : Int32).toInt64 &&& 63))) s.2 hW hFr h hL33 hQ
theorem cmpattern_33L (s0 : State) (D : va_G) (cB cI cJ cD : ClassId) (am a1 a2 a3 : Nat) (F : Nat → Int32) (G : Nat → Int64) (tp : Nat → Int32) (w : Nat → Int32) (oc : Nat → Int32) (n : Nat) (x1 : Int32) (x2 : Int32) (x3 : Int32) : ∀ (k : Nat) (s : Int64 × Int32) {hi hm : zHp} {nx : Nat} {Q : Option Value → zHp → zHp → Nat → Prop} {hm0 : zHp} (_ : mW cB cI am a1 a2 a3 F G tp w oc hm) (_ : mFr am a1 a2 a3 hm0 hm) {x : Int64 × (Nat → Int32)} (_ : zloop (mpattern_33 n F w x1 x2 x3) k s = some x) (hQ : ∀ r : Int64 × (Nat → Int32), x = r → ∀ hm', mW cB cI am a1 a2 a3 r.2 G tp w oc hm' → mFr am a1 a2 a3 hm0 hm' → Q (some (.long r.1)) hi hm' nx), zV s0 D (zty cB cI cJ cD) yX12_pattern cX12_pattern 7 (some .long) 3 72 0 0 33 [(0, .ref am), (1, .int x1), (2, .int x2), (3, .int x3), (4, .long s.1), (6, .int s.2)] [] hi hm nx Q
  | 0, s, _, _, _, _, _, hW, hFr, _, h, _ => by cases h
  | k + 1, s, hi, hm, nx, Q, hm0, hW, hFr, x, h, hQ => by
    obtain ⟨z, hz, h1, h2⟩ := zloop_succ h
    exact cmpattern_33 s0 D cB cI cJ cD am a1 a2 a3 F G tp w oc n x1 x2 x3 s z hW hFr hz (fun s' hs hm' hW' hFr' => cmpattern_33L s0 D cB cI cJ cD am a1 a2 a3 F G tp w oc n x1 x2 x3 k s' hW' hFr' (h1 s' hs) hQ) (fun r hr hm' hW' hFr' => hQ r (h2 _ hr).symm hm' hW' hFr')
def mpattern (n : Nat) (F : Nat → Int32) (w : Nat → Int32) (x1 : Int32) (x2 : Int32) (x3 : Int32) : Option (Int64 × (Nat → Int32)) := (misThere w x1).bind (fun v1 => (if v1 = true then (misRun x2 x3 62).bind (fun v2 => (if v2 = true then (zloop (mpattern_33 n (upd F 0 0) w x1 x2 x3) n (0, 0)) else some ((-1000000000000000), (upd F 0 0)))) else some ((-1000000000000000), (upd F 0 0))))
theorem oX12_pattern : zO yX12_pattern cX12_pattern 7 (some .long) 3 := ⟨zT_mem 1987 (by decide +kernel) rfl, zT_mem 94 (by decide +kernel) rfl, by decide +kernel, by decide +kernel, by decide +kernel⟩
set_option maxHeartbeats 4000000 in
set_option maxRecDepth 100000 in
theorem cmpattern (s0 : State) (D : va_G) (cB cI cJ cD : ClassId) (am a1 a2 a3 : Nat) (F : Nat → Int32) (G : Nat → Int64) (tp w oc : Nat → Int32) (n : Nat) (x1 : Int32) (x2 : Int32) (x3 : Int32) (x : Int64 × (Nat → Int32)) (h : mpattern n F w x1 x2 x3 = some x) : mC s0 D cB cI cJ cD am a1 a2 a3 yX12_pattern cX12_pattern 7 (some .long) 3 72 [.int x1, .int x2, .int x3] F G tp w oc (some (.long x.1)) x.2 G tp w oc := by
  intro hi hm nx Q hW hQ0
  have hQ : ∀ r : Int64 × (Nat → Int32), x = r → ∀ hm', mW cB cI am a1 a2 a3 r.2 G tp w oc hm' → mFr am a1 a2 a3 hm hm' → Q (some (.long r.1)) hi hm' nx := fun r hr => by subst hr; exact hQ0
  have hFr : mFr am a1 a2 a3 hm hm := mFr.rf
  clear hQ0
  refine zM_of (by decide +kernel) (Nat.le_of_ble_eq_true rfl) ?_
  unfold mpattern at h
  refine zV_eq (lo2 := [(0, .ref am), (1, .int x1), (2, .int x2), (3, .int x3)]) rfl rfl rfl rfl ?_
  refine zV_blk (pc' := 2) (lo' := [(0, .ref am), (1, .int x1), (2, .int x2), (3, .int x3)]) (st' := [.int 0, .ref am]) [.aload_n 0, .iconst 0] (by decide +kernel) rfl ?_
  refine m_put (idx := 25) (k := 0) (v := .int 0) (F' := (upd F 0 0)) (G' := G) hW m_in12 (by decide) (zT_mem 1440 (by decide +kernel) rfl) rfl rfl rfl rfl (by decide +kernel) (fun hm hW hFr2 => ?_)
  replace hFr := hFr.tr hFr2; clear hFr2
  refine zV_blk (pc' := 7) (lo' := [(0, .ref am), (1, .int x1), (2, .int x2), (3, .int x3)]) (st' := [.int x1, .ref am]) [.aload_n 0, .iload_n 1] (by decide +kernel) rfl ?_
  obtain ⟨v1, hv1, h⟩ := zbind h
  refine m_cR (idx := 273) (rest := []) hW (cmisThere s0 D cB cI cJ cD am a1 a2 a3 (upd F 0 0) G tp w oc x1 v1 hv1) oX12_isThere rfl (zT_mem 1686 (by decide +kernel) rfl) (zT_mem 1688 (by decide +kernel) rfl) (zT_mem 49 (by decide +kernel) rfl) rfl rfl (Nat.le_of_ble_eq_true rfl) ⟨by decide, by decide⟩ (by decide +kernel) ?_
  refine zV_eq (st2 := [.int (zb v1)]) rfl rfl rfl rfl ?_
  refine zV_bif_eq (tgt := 23) (off := 13) (by decide +kernel) (by decide) (fun q => ?_) (fun q => ?_)
  · replace h := zif_neg q h
    clear q
    refine zV_ldc2 (idx := 40) (v := (-1000000000000000)) (zT_mem 1728 (by decide +kernel) rfl) (by decide +kernel) ?_
    obtain rfl := Option.some.inj h
    exact zV_lret rfl (by decide +kernel) (hQ _ rfl hm hW hFr)
  · replace h := zif_pos q h
    clear q
    refine zV_blk (pc' := 17) (lo' := [(0, .ref am), (1, .int x1), (2, .int x2), (3, .int x3)]) (st' := [.int 62, .int x3, .int x2]) [.iload_n 2, .iload_n 3, .bipush 62] (by decide +kernel) rfl ?_
    obtain ⟨v2, hv2, h⟩ := zbind h
    refine zV_sC (idx := 381) (rest := []) (cmisRun s0 D cB cI cJ cD x2 x3 62 v2 hv2) oX12_isRun (zT_mem 1958 (by decide +kernel) rfl) (zT_mem 1959 (by decide +kernel) rfl) rfl rfl (Nat.le_of_ble_eq_true rfl) ⟨by decide, by decide⟩ (by decide +kernel) ?_
    refine zV_eq (st2 := [.int (zb v2)]) rfl rfl rfl rfl ?_
    refine zV_bif_ne (tgt := 27) (off := 7) (by decide +kernel) (by decide) (fun q => ?_) (fun q => ?_)
    · replace h := zif_pos q h
      clear q
      refine zV_blk (pc' := 33) (lo' := [(6, .int 0), (4, .long 0), (0, .ref am), (1, .int x1), (2, .int x2), (3, .int x3)]) (st' := []) [.lconst 0, .lstore 4, .iconst 0, .istore 6] (by decide +kernel) rfl ?_
      refine zV_pick (lo2 := [(0, .ref am), (1, .int x1), (2, .int x2), (3, .int x3), (4, .long 0), (6, .int 0)]) [2, 3, 4, 5, 1, 0] rfl ?_
      exact cmpattern_33L s0 D cB cI cJ cD am a1 a2 a3 (upd F 0 0) G tp w oc n x1 x2 x3 n (0, 0) hW hFr h hQ
    · replace h := zif_neg q h
      clear q
      refine zV_ldc2 (idx := 40) (v := (-1000000000000000)) (zT_mem 1728 (by decide +kernel) rfl) (by decide +kernel) ?_
      obtain rfl := Option.some.inj h
      exact zV_lret rfl (by decide +kernel) (hQ _ rfl hm hW hFr)

def mbusiest_128 (n : Nat) (F : Nat → Int32) (w : Nat → Int32) (x2 : Int32) (x3 : Int32) (x4 : Int32) (x5 : Int32) (x6 : Int32) (x7 : Int32) (x8 : Int32) (x9 : Int32) (x10 : Int32) : Option ((Int32 × Int32 × Int32) ⊕ (Int64 × (Nat → Int32))) := some (.inl (x8, x9, (x10 + 1)))
set_option maxHeartbeats 4000000 in
set_option maxRecDepth 100000 in
theorem cmbusiest_128 (s0 : State) (D : va_G) (cB cI cJ cD : ClassId) (am a1 a2 a3 : Nat) (F : Nat → Int32) (G : Nat → Int64) (tp w oc : Nat → Int32) (n : Nat) (x2 : Int32) (x3 : Int32) (x4 : Int32) (x5 : Int32) (x6 : Int32) (x7 : Int32) (x8 : Int32) (x9 : Int32) (x10 : Int32) {hi hm : zHp} {nx : Nat} {Q : Option Value → zHp → zHp → Nat → Prop} {hm0 : zHp} {x : (Int32 × Int32 × Int32) ⊕ (Int64 × (Nat → Int32))} (hW : mW cB cI am a1 a2 a3 F G tp w oc hm) (hFr : mFr am a1 a2 a3 hm0 hm) (h : mbusiest_128 n F w x2 x3 x4 x5 x6 x7 x8 x9 x10 = some x) (hL80 : ∀ s : Int32 × Int32 × Int32, x = (.inl s) → ∀ hm', mW cB cI am a1 a2 a3 F G tp w oc hm' → mFr am a1 a2 a3 hm0 hm' → zV s0 D (zty cB cI cJ cD) yX12_busiest cX12_busiest 12 (some .long) 6 152 0 0 80 [(0, .ref am), (2, .int x2), (3, .int x3), (4, .int x4), (5, .int x5), (6, .int x6), (7, .int x7), (8, .int s.1), (9, .int s.2.1), (10, .int s.2.2)] [] hi hm' nx Q) (hQ : ∀ r : Int64 × (Nat → Int32), x = (.inr r) → ∀ hm', mW cB cI am a1 a2 a3 r.2 G tp w oc hm' → mFr am a1 a2 a3 hm0 hm' → Q (some (.long r.1)) hi hm' nx) : zV s0 D (zty cB cI cJ cD) yX12_busiest cX12_busiest 12 (some .long) 6 152 0 0 128 [(0, .ref am), (2, .int x2), (3, .int x3), (4, .int x4), (5, .int x5), (6, .int x6), (7, .int x7), (8, .int x8), (9, .int x9), (10, .int x10)] [] hi hm nx Q := by
  unfold mbusiest_128 at h
  refine zV_blk (pc' := 131) (lo' := [(10, .int (x10 + 1)), (0, .ref am), (2, .int x2), (3, .int x3), (4, .int x4), (5, .int x5), (6, .int x6), (7, .int x7), (8, .int x8), (9, .int x9)]) (st' := []) [.iinc 10 1] (by decide +kernel) rfl ?_
  refine zV_goto (tgt := 80) (off := -51) (by decide +kernel) (by decide) ?_
  obtain rfl := Option.some.inj h
  refine zV_pick (lo2 := [(0, .ref am), (2, .int x2), (3, .int x3), (4, .int x4), (5, .int x5), (6, .int x6), (7, .int x7), (8, .int x8), (9, .int x9), (10, .int (x10 + 1))]) [1, 2, 3, 4, 5, 6, 7, 8, 9, 0] rfl ?_
  exact hL80 _ rfl hm hW hFr
def mbusiest_80 (n : Nat) (F : Nat → Int32) (w : Nat → Int32) (x2 : Int32) (x3 : Int32) (x4 : Int32) (x5 : Int32) (x6 : Int32) (x7 : Int32) (s : Int32 × Int32 × Int32) : Option ((Int32 × Int32 × Int32) ⊕ (Int64 × (Nat → Int32))) := zck (zin ((x7 + 4)) 35802) ((if ((w ((x7 + 4) : Int32).toNatClampNeg) : Int32) ≤ (s.2.2 : Int32) then (if (x6 : Int32) = (0 : Int32) then some (.inr ((s.1 : Int32).toInt64, F)) else some (.inr ((s.2.1 : Int32).toInt64, F))) else (mfallsOf n w x7 x2 x3 s.2.2 x4 x5).bind (fun v1 => (if (s.2.1 : Int32) < (v1 : Int32) then (mbusiest_128 n F w x2 x3 x4 x5 x6 x7 s.2.2 v1 s.2.2) else (mbusiest_128 n F w x2 x3 x4 x5 x6 x7 s.1 s.2.1 s.2.2)))))
set_option maxHeartbeats 4000000 in
set_option maxRecDepth 100000 in
theorem cmbusiest_80 (s0 : State) (D : va_G) (cB cI cJ cD : ClassId) (am a1 a2 a3 : Nat) (F : Nat → Int32) (G : Nat → Int64) (tp : Nat → Int32) (w : Nat → Int32) (oc : Nat → Int32) (n : Nat) (x2 : Int32) (x3 : Int32) (x4 : Int32) (x5 : Int32) (x6 : Int32) (x7 : Int32) (s : Int32 × Int32 × Int32) (x : (Int32 × Int32 × Int32) ⊕ (Int64 × (Nat → Int32))) {hi hm : zHp} {nx : Nat} {Q : Option Value → zHp → zHp → Nat → Prop} {hm0 : zHp} (hW : mW cB cI am a1 a2 a3 F G tp w oc hm) (hFr : mFr am a1 a2 a3 hm0 hm) (h : mbusiest_80 n F w x2 x3 x4 x5 x6 x7 s = some x) (hL80 : ∀ s : Int32 × Int32 × Int32, x = (.inl s) → ∀ hm', mW cB cI am a1 a2 a3 F G tp w oc hm' → mFr am a1 a2 a3 hm0 hm' → zV s0 D (zty cB cI cJ cD) yX12_busiest cX12_busiest 12 (some .long) 6 152 0 0 80 [(0, .ref am), (2, .int x2), (3, .int x3), (4, .int x4), (5, .int x5), (6, .int x6), (7, .int x7), (8, .int s.1), (9, .int s.2.1), (10, .int s.2.2)] [] hi hm' nx Q) (hQ : ∀ r : Int64 × (Nat → Int32), x = (.inr r) → ∀ hm', mW cB cI am a1 a2 a3 r.2 G tp w oc hm' → mFr am a1 a2 a3 hm0 hm' → Q (some (.long r.1)) hi hm' nx) : zV s0 D (zty cB cI cJ cD) yX12_busiest cX12_busiest 12 (some .long) 6 152 0 0 80 [(0, .ref am), (2, .int x2), (3, .int x3), (4, .int x4), (5, .int x5), (6, .int x6), (7, .int x7), (8, .int s.1), (9, .int s.2.1), (10, .int s.2.2)] [] hi hm nx Q := by
  unfold mbusiest_80 at h
  refine zV_blk (pc' := 83) (lo' := [(0, .ref am), (2, .int x2), (3, .int x3), (4, .int x4), (5, .int x5), (6, .int x6), (7, .int x7), (8, .int s.1), (9, .int s.2.1), (10, .int s.2.2)]) (st' := [.ref am, .int s.2.2]) [.iload 10, .aload_n 0] (by decide +kernel) rfl ?_
  refine m_get (idx := 18) (k := 12) (v := .ref a2) hW m_in12 (by decide) (zT_mem 1452 (by decide +kernel) rfl) rfl (by decide +kernel) ?_
  refine zV_blk (pc' := 90) (lo' := [(0, .ref am), (2, .int x2), (3, .int x3), (4, .int x4), (5, .int x5), (6, .int x6), (7, .int x7), (8, .int s.1), (9, .int s.2.1), (10, .int s.2.2)]) (st' := [.int (x7 + 4), .ref a2, .int s.2.2]) [.iload 7, .iconst 4, .iadd] (by decide +kernel) rfl ?_
  obtain ⟨hz, h⟩ := zck_some h
  refine m_wld hW hz (by decide +kernel) ?_
  refine zV_icmp_ge (tgt := 134) (off := 43) (by decide +kernel) (by decide) (fun q => ?_) (fun q => ?_)
  · replace h := zif_pos q h
    clear q
    refine zV_blk (pc' := 136) (lo' := [(0, .ref am), (2, .int x2), (3, .int x3), (4, .int x4), (5, .int x5), (6, .int x6), (7, .int x7), (8, .int s.1), (9, .int s.2.1), (10, .int s.2.2)]) (st' := [.int x6]) [.iload 6] (by decide +kernel) rfl ?_
    refine zV_if_ne (tgt := 145) (off := 9) (by decide +kernel) (by decide) (fun q => ?_) (fun q => ?_)
    · replace h := zif_neg q h
      clear q
      refine zV_blk (pc' := 148) (lo' := [(0, .ref am), (2, .int x2), (3, .int x3), (4, .int x4), (5, .int x5), (6, .int x6), (7, .int x7), (8, .int s.1), (9, .int s.2.1), (10, .int s.2.2)]) (st' := [.long (s.2.1 : Int32).toInt64]) [.iload 9, .i2l] (by decide +kernel) rfl ?_
      obtain rfl := Option.some.inj h
      exact zV_lret rfl (by decide +kernel) (hQ _ rfl hm hW hFr)
    · replace h := zif_pos q h
      clear q
      refine zV_blk (pc' := 142) (lo' := [(0, .ref am), (2, .int x2), (3, .int x3), (4, .int x4), (5, .int x5), (6, .int x6), (7, .int x7), (8, .int s.1), (9, .int s.2.1), (10, .int s.2.2)]) (st' := [.long (s.1 : Int32).toInt64]) [.iload 8, .i2l] (by decide +kernel) rfl ?_
      refine zV_goto (tgt := 148) (off := 6) (by decide +kernel) (by decide) ?_
      obtain rfl := Option.some.inj h
      exact zV_lret rfl (by decide +kernel) (hQ _ rfl hm hW hFr)
  · replace h := zif_neg q h
    clear q
    refine zV_blk (pc' := 105) (lo' := [(0, .ref am), (2, .int x2), (3, .int x3), (4, .int x4), (5, .int x5), (6, .int x6), (7, .int x7), (8, .int s.1), (9, .int s.2.1), (10, .int s.2.2)]) (st' := [.int x5, .int x4, .int s.2.2, .int x3, .int x2, .int x7, .ref am]) [.aload_n 0, .iload 7, .iload_n 2, .iload_n 3, .iload 10, .iload 4, .iload 5] (by decide +kernel) rfl ?_
    obtain ⟨v1, hv1, h⟩ := zbind h
    refine m_cR (idx := 391) (rest := []) hW (cmfallsOf s0 D cB cI cJ cD am a1 a2 a3 F G tp w oc n x7 x2 x3 s.2.2 x4 x5 v1 hv1) oX12_fallsOf rfl (zT_mem 1969 (by decide +kernel) rfl) (zT_mem 1971 (by decide +kernel) rfl) (zT_mem 81 (by decide +kernel) rfl) rfl rfl (Nat.le_of_ble_eq_true rfl) ⟨by decide, by decide⟩ (by decide +kernel) ?_
    refine zV_eq (st2 := [.int v1]) rfl rfl rfl rfl ?_
    refine zV_blk (pc' := 114) (lo' := [(11, .int v1), (0, .ref am), (2, .int x2), (3, .int x3), (4, .int x4), (5, .int x5), (6, .int x6), (7, .int x7), (8, .int s.1), (9, .int s.2.1), (10, .int s.2.2)]) (st' := [.int s.2.1, .int v1]) [.istore 11, .iload 11, .iload 9] (by decide +kernel) rfl ?_
    refine zV_icmp_gt (tgt := 120) (off := 6) (by decide +kernel) (by decide) (fun q => ?_) (fun q => ?_)
    · replace h := zif_pos q h
      clear q
      refine zV_blk (pc' := 128) (lo' := [(8, .int s.2.2), (9, .int v1), (11, .int v1), (0, .ref am), (2, .int x2), (3, .int x3), (4, .int x4), (5, .int x5), (6, .int x6), (7, .int x7), (10, .int s.2.2)]) (st' := []) [.iload 11, .istore 9, .iload 10, .istore 8] (by decide +kernel) rfl ?_
      refine zV_pick (lo2 := [(0, .ref am), (2, .int x2), (3, .int x3), (4, .int x4), (5, .int x5), (6, .int x6), (7, .int x7), (8, .int s.2.2), (9, .int v1), (10, .int s.2.2)]) [3, 4, 5, 6, 7, 8, 9, 0, 1, 10] rfl ?_
      exact cmbusiest_128 s0 D cB cI cJ cD am a1 a2 a3 F G tp w oc n x2 x3 x4 x5 x6 x7 s.2.2 v1 s.2.2 hW hFr h hL80 hQ
    · replace h := zif_neg q h
      clear q
      refine zV_goto (tgt := 128) (off := 11) (by decide +kernel) (by decide) ?_
      refine zV_pick (lo2 := [(0, .ref am), (2, .int x2), (3, .int x3), (4, .int x4), (5, .int x5), (6, .int x6), (7, .int x7), (8, .int s.1), (9, .int s.2.1), (10, .int s.2.2)]) [1, 2, 3, 4, 5, 6, 7, 8, 9, 10] rfl ?_
      exact cmbusiest_128 s0 D cB cI cJ cD am a1 a2 a3 F G tp w oc n x2 x3 x4 x5 x6 x7 s.1 s.2.1 s.2.2 hW hFr h hL80 hQ
theorem cmbusiest_80L (s0 : State) (D : va_G) (cB cI cJ cD : ClassId) (am a1 a2 a3 : Nat) (F : Nat → Int32) (G : Nat → Int64) (tp : Nat → Int32) (w : Nat → Int32) (oc : Nat → Int32) (n : Nat) (x2 : Int32) (x3 : Int32) (x4 : Int32) (x5 : Int32) (x6 : Int32) (x7 : Int32) : ∀ (k : Nat) (s : Int32 × Int32 × Int32) {hi hm : zHp} {nx : Nat} {Q : Option Value → zHp → zHp → Nat → Prop} {hm0 : zHp} (_ : mW cB cI am a1 a2 a3 F G tp w oc hm) (_ : mFr am a1 a2 a3 hm0 hm) {x : Int64 × (Nat → Int32)} (_ : zloop (mbusiest_80 n F w x2 x3 x4 x5 x6 x7) k s = some x) (hQ : ∀ r : Int64 × (Nat → Int32), x = r → ∀ hm', mW cB cI am a1 a2 a3 r.2 G tp w oc hm' → mFr am a1 a2 a3 hm0 hm' → Q (some (.long r.1)) hi hm' nx), zV s0 D (zty cB cI cJ cD) yX12_busiest cX12_busiest 12 (some .long) 6 152 0 0 80 [(0, .ref am), (2, .int x2), (3, .int x3), (4, .int x4), (5, .int x5), (6, .int x6), (7, .int x7), (8, .int s.1), (9, .int s.2.1), (10, .int s.2.2)] [] hi hm nx Q
  | 0, s, _, _, _, _, _, hW, hFr, _, h, _ => by cases h
  | k + 1, s, hi, hm, nx, Q, hm0, hW, hFr, x, h, hQ => by
    obtain ⟨z, hz, h1, h2⟩ := zloop_succ h
    exact cmbusiest_80 s0 D cB cI cJ cD am a1 a2 a3 F G tp w oc n x2 x3 x4 x5 x6 x7 s z hW hFr hz (fun s' hs hm' hW' hFr' => cmbusiest_80L s0 D cB cI cJ cD am a1 a2 a3 F G tp w oc n x2 x3 x4 x5 x6 x7 k s' hW' hFr' (h1 s' hs) hQ) (fun r hr hm' hW' hFr' => hQ r (h2 _ hr).symm hm' hW' hFr')
def mbusiest (n : Nat) (F : Nat → Int32) (w : Nat → Int32) (x1 : Int32) (x2 : Int32) (x3 : Int32) (x4 : Int32) (x5 : Int32) (x6 : Int32) : Option (Int64 × (Nat → Int32)) := (misThere w x1).bind (fun v1 => (if v1 = true then (misRun x2 x3 5000).bind (fun v2 => (if v2 = true then (misIn (x4 : Int32).toInt64 0 99).bind (fun v3 => (if v3 = true then (mbank x1).bind (fun v4 => (misWeekday w v4 x5).bind (fun v5 => (if v5 = true then (misIn (x6 : Int32).toInt64 0 1).bind (fun v6 => (if v6 = true then (mbank x1).bind (fun v7 => (zloop (mbusiest_80 n (upd F 0 0) w x2 x3 x4 x5 x6 v7) n ((-1), 0, 0))) else some ((-1000000000000000), (upd F 0 0)))) else some ((-1000000000000000), (upd F 0 0))))) else some ((-1000000000000000), (upd F 0 0)))) else some ((-1000000000000000), (upd F 0 0)))) else some ((-1000000000000000), (upd F 0 0))))
theorem oX12_busiest : zO yX12_busiest cX12_busiest 12 (some .long) 6 := ⟨zT_mem 1991 (by decide +kernel) rfl, zT_mem 94 (by decide +kernel) rfl, by decide +kernel, by decide +kernel, by decide +kernel⟩
set_option maxHeartbeats 4000000 in
set_option maxRecDepth 100000 in
theorem cmbusiest (s0 : State) (D : va_G) (cB cI cJ cD : ClassId) (am a1 a2 a3 : Nat) (F : Nat → Int32) (G : Nat → Int64) (tp w oc : Nat → Int32) (n : Nat) (x1 : Int32) (x2 : Int32) (x3 : Int32) (x4 : Int32) (x5 : Int32) (x6 : Int32) (x : Int64 × (Nat → Int32)) (h : mbusiest n F w x1 x2 x3 x4 x5 x6 = some x) : mC s0 D cB cI cJ cD am a1 a2 a3 yX12_busiest cX12_busiest 12 (some .long) 6 152 [.int x1, .int x2, .int x3, .int x4, .int x5, .int x6] F G tp w oc (some (.long x.1)) x.2 G tp w oc := by
  intro hi hm nx Q hW hQ0
  have hQ : ∀ r : Int64 × (Nat → Int32), x = r → ∀ hm', mW cB cI am a1 a2 a3 r.2 G tp w oc hm' → mFr am a1 a2 a3 hm hm' → Q (some (.long r.1)) hi hm' nx := fun r hr => by subst hr; exact hQ0
  have hFr : mFr am a1 a2 a3 hm hm := mFr.rf
  clear hQ0
  refine zM_of (by decide +kernel) (Nat.le_of_ble_eq_true rfl) ?_
  unfold mbusiest at h
  refine zV_eq (lo2 := [(0, .ref am), (1, .int x1), (2, .int x2), (3, .int x3), (4, .int x4), (5, .int x5), (6, .int x6)]) rfl rfl rfl rfl ?_
  refine zV_blk (pc' := 2) (lo' := [(0, .ref am), (1, .int x1), (2, .int x2), (3, .int x3), (4, .int x4), (5, .int x5), (6, .int x6)]) (st' := [.int 0, .ref am]) [.aload_n 0, .iconst 0] (by decide +kernel) rfl ?_
  refine m_put (idx := 25) (k := 0) (v := .int 0) (F' := (upd F 0 0)) (G' := G) hW m_in12 (by decide) (zT_mem 1440 (by decide +kernel) rfl) rfl rfl rfl rfl (by decide +kernel) (fun hm hW hFr2 => ?_)
  replace hFr := hFr.tr hFr2; clear hFr2
  refine zV_blk (pc' := 7) (lo' := [(0, .ref am), (1, .int x1), (2, .int x2), (3, .int x3), (4, .int x4), (5, .int x5), (6, .int x6)]) (st' := [.int x1, .ref am]) [.aload_n 0, .iload_n 1] (by decide +kernel) rfl ?_
  obtain ⟨v1, hv1, h⟩ := zbind h
  refine m_cR (idx := 273) (rest := []) hW (cmisThere s0 D cB cI cJ cD am a1 a2 a3 (upd F 0 0) G tp w oc x1 v1 hv1) oX12_isThere rfl (zT_mem 1686 (by decide +kernel) rfl) (zT_mem 1688 (by decide +kernel) rfl) (zT_mem 49 (by decide +kernel) rfl) rfl rfl (Nat.le_of_ble_eq_true rfl) ⟨by decide, by decide⟩ (by decide +kernel) ?_
  refine zV_eq (st2 := [.int (zb v1)]) rfl rfl rfl rfl ?_
  refine zV_bif_eq (tgt := 61) (off := 51) (by decide +kernel) (by decide) (fun q => ?_) (fun q => ?_)
  · replace h := zif_neg q h
    clear q
    refine zV_ldc2 (idx := 40) (v := (-1000000000000000)) (zT_mem 1728 (by decide +kernel) rfl) (by decide +kernel) ?_
    obtain rfl := Option.some.inj h
    exact zV_lret rfl (by decide +kernel) (hQ _ rfl hm hW hFr)
  · replace h := zif_pos q h
    clear q
    refine zV_blk (pc' := 18) (lo' := [(0, .ref am), (1, .int x1), (2, .int x2), (3, .int x3), (4, .int x4), (5, .int x5), (6, .int x6)]) (st' := [.int 5000, .int x3, .int x2]) [.iload_n 2, .iload_n 3, .sipush 5000] (by decide +kernel) rfl ?_
    obtain ⟨v2, hv2, h⟩ := zbind h
    refine zV_sC (idx := 381) (rest := []) (cmisRun s0 D cB cI cJ cD x2 x3 5000 v2 hv2) oX12_isRun (zT_mem 1958 (by decide +kernel) rfl) (zT_mem 1959 (by decide +kernel) rfl) rfl rfl (Nat.le_of_ble_eq_true rfl) ⟨by decide, by decide⟩ (by decide +kernel) ?_
    refine zV_eq (st2 := [.int (zb v2)]) rfl rfl rfl rfl ?_
    refine zV_bif_eq (tgt := 61) (off := 40) (by decide +kernel) (by decide) (fun q => ?_) (fun q => ?_)
    · replace h := zif_neg q h
      clear q
      refine zV_ldc2 (idx := 40) (v := (-1000000000000000)) (zT_mem 1728 (by decide +kernel) rfl) (by decide +kernel) ?_
      obtain rfl := Option.some.inj h
      exact zV_lret rfl (by decide +kernel) (hQ _ rfl hm hW hFr)
    · replace h := zif_pos q h
      clear q
      refine zV_blk (pc' := 28) (lo' := [(0, .ref am), (1, .int x1), (2, .int x2), (3, .int x3), (4, .int x4), (5, .int x5), (6, .int x6)]) (st' := [.long 0, .long (x4 : Int32).toInt64]) [.iload 4, .i2l, .lconst 0] (by decide +kernel) rfl ?_
      refine zV_ldc2 (idx := 401) (v := 99) (zT_mem 1992 (by decide +kernel) rfl) (by decide +kernel) ?_
      obtain ⟨v3, hv3, h⟩ := zbind h
      refine zV_sC (idx := 36) (rest := []) (cmisIn s0 D cB cI cJ cD (x4 : Int32).toInt64 0 99 v3 hv3) oX12_isIn (zT_mem 1531 (by decide +kernel) rfl) (zT_mem 1532 (by decide +kernel) rfl) rfl rfl (Nat.le_of_ble_eq_true rfl) ⟨by decide, by decide⟩ (by decide +kernel) ?_
      refine zV_eq (st2 := [.int (zb v3)]) rfl rfl rfl rfl ?_
      refine zV_bif_eq (tgt := 61) (off := 27) (by decide +kernel) (by decide) (fun q => ?_) (fun q => ?_)
      · replace h := zif_neg q h
        clear q
        refine zV_ldc2 (idx := 40) (v := (-1000000000000000)) (zT_mem 1728 (by decide +kernel) rfl) (by decide +kernel) ?_
        obtain rfl := Option.some.inj h
        exact zV_lret rfl (by decide +kernel) (hQ _ rfl hm hW hFr)
      · replace h := zif_pos q h
        clear q
        refine zV_blk (pc' := 39) (lo' := [(0, .ref am), (1, .int x1), (2, .int x2), (3, .int x3), (4, .int x4), (5, .int x5), (6, .int x6)]) (st' := [.int x1, .ref am]) [.aload_n 0, .iload_n 1] (by decide +kernel) rfl ?_
        obtain ⟨v4, hv4, h⟩ := zbind h
        refine zV_sC (idx := 118) (rest := [.ref am]) (cmbank s0 D cB cI cJ cD x1 v4 hv4) oX12_bank (zT_mem 1671 (by decide +kernel) rfl) (zT_mem 1672 (by decide +kernel) rfl) rfl rfl (Nat.le_of_ble_eq_true rfl) ⟨by decide, by decide⟩ (by decide +kernel) ?_
        refine zV_eq (st2 := [.int v4, .ref am]) rfl rfl rfl rfl ?_
        refine zV_blk (pc' := 44) (lo' := [(0, .ref am), (1, .int x1), (2, .int x2), (3, .int x3), (4, .int x4), (5, .int x5), (6, .int x6)]) (st' := [.int x5, .int v4, .ref am]) [.iload 5] (by decide +kernel) rfl ?_
        obtain ⟨v5, hv5, h⟩ := zbind h
        refine m_cR (idx := 388) (rest := []) hW (cmisWeekday s0 D cB cI cJ cD am a1 a2 a3 (upd F 0 0) G tp w oc v4 x5 v5 hv5) oX12_isWeekday rfl (zT_mem 1965 (by decide +kernel) rfl) (zT_mem 1967 (by decide +kernel) rfl) (zT_mem 80 (by decide +kernel) rfl) rfl rfl (Nat.le_of_ble_eq_true rfl) ⟨by decide, by decide⟩ (by decide +kernel) ?_
        refine zV_eq (st2 := [.int (zb v5)]) rfl rfl rfl rfl ?_
        refine zV_bif_eq (tgt := 61) (off := 14) (by decide +kernel) (by decide) (fun q => ?_) (fun q => ?_)
        · replace h := zif_neg q h
          clear q
          refine zV_ldc2 (idx := 40) (v := (-1000000000000000)) (zT_mem 1728 (by decide +kernel) rfl) (by decide +kernel) ?_
          obtain rfl := Option.some.inj h
          exact zV_lret rfl (by decide +kernel) (hQ _ rfl hm hW hFr)
        · replace h := zif_pos q h
          clear q
          refine zV_blk (pc' := 55) (lo' := [(0, .ref am), (1, .int x1), (2, .int x2), (3, .int x3), (4, .int x4), (5, .int x5), (6, .int x6)]) (st' := [.long 1, .long 0, .long (x6 : Int32).toInt64]) [.iload 6, .i2l, .lconst 0, .lconst 1] (by decide +kernel) rfl ?_
          obtain ⟨v6, hv6, h⟩ := zbind h
          refine zV_sC (idx := 36) (rest := []) (cmisIn s0 D cB cI cJ cD (x6 : Int32).toInt64 0 1 v6 hv6) oX12_isIn (zT_mem 1531 (by decide +kernel) rfl) (zT_mem 1532 (by decide +kernel) rfl) rfl rfl (Nat.le_of_ble_eq_true rfl) ⟨by decide, by decide⟩ (by decide +kernel) ?_
          refine zV_eq (st2 := [.int (zb v6)]) rfl rfl rfl rfl ?_
          refine zV_bif_ne (tgt := 65) (off := 7) (by decide +kernel) (by decide) (fun q => ?_) (fun q => ?_)
          · replace h := zif_pos q h
            clear q
            refine zV_blk (pc' := 66) (lo' := [(0, .ref am), (1, .int x1), (2, .int x2), (3, .int x3), (4, .int x4), (5, .int x5), (6, .int x6)]) (st' := [.int x1]) [.iload_n 1] (by decide +kernel) rfl ?_
            obtain ⟨v7, hv7, h⟩ := zbind h
            refine zV_sC (idx := 118) (rest := []) (cmbank s0 D cB cI cJ cD x1 v7 hv7) oX12_bank (zT_mem 1671 (by decide +kernel) rfl) (zT_mem 1672 (by decide +kernel) rfl) rfl rfl (Nat.le_of_ble_eq_true rfl) ⟨by decide, by decide⟩ (by decide +kernel) ?_
            refine zV_eq (st2 := [.int v7]) rfl rfl rfl rfl ?_
            refine zV_blk (pc' := 80) (lo' := [(10, .int 0), (9, .int 0), (8, .int (-1)), (7, .int v7), (0, .ref am), (1, .int x1), (2, .int x2), (3, .int x3), (4, .int x4), (5, .int x5), (6, .int x6)]) (st' := []) [.istore 7, .iconst (-1), .istore 8, .iconst 0, .istore 9, .iconst 0, .istore 10] (by decide +kernel) rfl ?_
            refine zV_pick (lo2 := [(0, .ref am), (2, .int x2), (3, .int x3), (4, .int x4), (5, .int x5), (6, .int x6), (7, .int v7), (8, .int (-1)), (9, .int 0), (10, .int 0)]) [4, 6, 7, 8, 9, 10, 3, 2, 1, 0] rfl ?_
            exact cmbusiest_80L s0 D cB cI cJ cD am a1 a2 a3 (upd F 0 0) G tp w oc n x2 x3 x4 x5 x6 v7 n ((-1), 0, 0) hW hFr h hQ
          · replace h := zif_neg q h
            clear q
            refine zV_ldc2 (idx := 40) (v := (-1000000000000000)) (zT_mem 1728 (by decide +kernel) rfl) (by decide +kernel) ?_
            obtain rfl := Option.some.inj h
            exact zV_lret rfl (by decide +kernel) (hQ _ rfl hm hW hFr)

def misMoon (x0 : Int32) (x1 : Int32) : Option (Bool) := (misIn (x0 : Int32).toInt64 1 10000000).bind (fun v1 => (if v1 = true then (misIn (x1 : Int32).toInt64 1 100000).bind (fun v2 => (if v2 = true then (if ((x0 : Int32).toInt64 : Int64) < ((2 * (x1 : Int32).toInt64) : Int64) then some false else (if ((1000 * (x1 : Int32).toInt64) : Int64) < ((x0 : Int32).toInt64 : Int64) then some false else some true)) else some false)) else some false))
theorem oX12_isMoon : zO yX12_isMoon cX12_isMoon 2 (some .boolean) 2 := ⟨zT_mem 1999 (by decide +kernel) rfl, zT_mem 94 (by decide +kernel) rfl, by decide +kernel, by decide +kernel, by decide +kernel⟩
set_option maxHeartbeats 4000000 in
set_option maxRecDepth 100000 in
theorem cmisMoon (s0 : State) (D : va_G) (cB cI cJ cD : ClassId) (x0 : Int32) (x1 : Int32) (x : Bool) (h : misMoon x0 x1 = some x) : sC s0 D (zty cB cI cJ cD) yX12_isMoon cX12_isMoon 2 (some .boolean) 1 25 [.int x0, .int x1] (.int (zb x)) := by
  intro hi hm nx Q hQ0
  have hQ : ∀ r : Bool, x = r → Q (some (.int (zb r))) hi hm nx := fun r hr => by subst hr; exact hQ0
  refine zM_of (by decide +kernel) (Nat.le_of_ble_eq_true rfl) ?_
  unfold misMoon at h
  refine zV_eq (lo2 := [(0, .int x0), (1, .int x1)]) rfl rfl rfl rfl ?_
  refine zV_blk (pc' := 3) (lo' := [(0, .int x0), (1, .int x1)]) (st' := [.long 1, .long (x0 : Int32).toInt64]) [.iload_n 0, .i2l, .lconst 1] (by decide +kernel) rfl ?_
  refine zV_ldc2 (idx := 403) (v := 10000000) (zT_mem 2000 (by decide +kernel) rfl) (by decide +kernel) ?_
  obtain ⟨v1, hv1, h⟩ := zbind h
  refine zV_sC (idx := 36) (rest := []) (cmisIn s0 D cB cI cJ cD (x0 : Int32).toInt64 1 10000000 v1 hv1) oX12_isIn (zT_mem 1531 (by decide +kernel) rfl) (zT_mem 1532 (by decide +kernel) rfl) rfl rfl (Nat.le_of_ble_eq_true rfl) ⟨by decide, by decide⟩ (by decide +kernel) ?_
  refine zV_eq (st2 := [.int (zb v1)]) rfl rfl rfl rfl ?_
  refine zV_bif_eq (tgt := 52) (off := 43) (by decide +kernel) (by decide) (fun q => ?_) (fun q => ?_)
  · replace h := zif_neg q h
    clear q
    refine zV_blk (pc' := 53) (lo' := [(0, .int x0), (1, .int x1)]) (st' := [.int 0]) [.iconst 0] (by decide +kernel) rfl ?_
    obtain rfl := Option.some.inj h
    refine zV_eq (st2 := [.int (zb false)]) rfl rfl rfl rfl ?_
    exact zV_bret rfl (by decide +kernel) (hQ _ rfl)
  · replace h := zif_pos q h
    clear q
    refine zV_blk (pc' := 15) (lo' := [(0, .int x0), (1, .int x1)]) (st' := [.long 1, .long (x1 : Int32).toInt64]) [.iload_n 1, .i2l, .lconst 1] (by decide +kernel) rfl ?_
    refine zV_ldc2 (idx := 242) (v := 100000) (zT_mem 1821 (by decide +kernel) rfl) (by decide +kernel) ?_
    obtain ⟨v2, hv2, h⟩ := zbind h
    refine zV_sC (idx := 36) (rest := []) (cmisIn s0 D cB cI cJ cD (x1 : Int32).toInt64 1 100000 v2 hv2) oX12_isIn (zT_mem 1531 (by decide +kernel) rfl) (zT_mem 1532 (by decide +kernel) rfl) rfl rfl (Nat.le_of_ble_eq_true rfl) ⟨by decide, by decide⟩ (by decide +kernel) ?_
    refine zV_eq (st2 := [.int (zb v2)]) rfl rfl rfl rfl ?_
    refine zV_bif_eq (tgt := 52) (off := 31) (by decide +kernel) (by decide) (fun q => ?_) (fun q => ?_)
    · replace h := zif_neg q h
      clear q
      refine zV_blk (pc' := 53) (lo' := [(0, .int x0), (1, .int x1)]) (st' := [.int 0]) [.iconst 0] (by decide +kernel) rfl ?_
      obtain rfl := Option.some.inj h
      refine zV_eq (st2 := [.int (zb false)]) rfl rfl rfl rfl ?_
      exact zV_bret rfl (by decide +kernel) (hQ _ rfl)
    · replace h := zif_pos q h
      clear q
      refine zV_blk (pc' := 26) (lo' := [(0, .int x0), (1, .int x1)]) (st' := [.long (x0 : Int32).toInt64]) [.iload_n 0, .i2l] (by decide +kernel) rfl ?_
      refine zV_ldc2 (idx := 249) (v := 2) (zT_mem 1859 (by decide +kernel) rfl) (by decide +kernel) ?_
      refine zV_blk (pc' := 33) (lo' := [(0, .int x0), (1, .int x1)]) (st' := [.int (lg_cmp (x0 : Int32).toInt64 (2 * (x1 : Int32).toInt64))]) [.iload_n 1, .i2l, .lmul, .lcmp] (by decide +kernel) rfl ?_
      refine zV_lcmp_lt (tgt := 52) (off := 19) (by decide +kernel) (by decide) (fun q => ?_) (fun q => ?_)
      · replace h := zif_pos q h
        clear q
        refine zV_blk (pc' := 53) (lo' := [(0, .int x0), (1, .int x1)]) (st' := [.int 0]) [.iconst 0] (by decide +kernel) rfl ?_
        obtain rfl := Option.some.inj h
        refine zV_eq (st2 := [.int (zb false)]) rfl rfl rfl rfl ?_
        exact zV_bret rfl (by decide +kernel) (hQ _ rfl)
      · replace h := zif_neg q h
        clear q
        refine zV_blk (pc' := 38) (lo' := [(0, .int x0), (1, .int x1)]) (st' := [.long (x0 : Int32).toInt64]) [.iload_n 0, .i2l] (by decide +kernel) rfl ?_
        refine zV_ldc2 (idx := 399) (v := 1000) (zT_mem 1983 (by decide +kernel) rfl) (by decide +kernel) ?_
        refine zV_blk (pc' := 45) (lo' := [(0, .int x0), (1, .int x1)]) (st' := [.int (lg_cmp (x0 : Int32).toInt64 (1000 * (x1 : Int32).toInt64))]) [.iload_n 1, .i2l, .lmul, .lcmp] (by decide +kernel) rfl ?_
        refine zV_lcmp_gt (tgt := 52) (off := 7) (by decide +kernel) (by decide) (fun q => ?_) (fun q => ?_)
        · replace h := zif_pos q h
          clear q
          refine zV_blk (pc' := 53) (lo' := [(0, .int x0), (1, .int x1)]) (st' := [.int 0]) [.iconst 0] (by decide +kernel) rfl ?_
          obtain rfl := Option.some.inj h
          refine zV_eq (st2 := [.int (zb false)]) rfl rfl rfl rfl ?_
          exact zV_bret rfl (by decide +kernel) (hQ _ rfl)
        · replace h := zif_neg q h
          clear q
          refine zV_blk (pc' := 49) (lo' := [(0, .int x0), (1, .int x1)]) (st' := [.int 1]) [.iconst 1] (by decide +kernel) rfl ?_
          refine zV_goto (tgt := 53) (off := 4) (by decide +kernel) (by decide) ?_
          obtain rfl := Option.some.inj h
          refine zV_eq (st2 := [.int (zb true)]) rfl rfl rfl rfl ?_
          exact zV_bret rfl (by decide +kernel) (hQ _ rfl)

def mmoonFrom (x0 : Int64) (x2 : Int64) (x4 : Int64) : Option (Int64) := (mfloor ((-x0) * x4) x2).bind (fun v1 => some (-v1))
theorem oX12_moonFrom : zO yX12_moonFrom cX12_moonFrom 6 (some .long) 3 := ⟨zT_mem 2003 (by decide +kernel) rfl, zT_mem 94 (by decide +kernel) rfl, by decide +kernel, by decide +kernel, by decide +kernel⟩
set_option maxHeartbeats 4000000 in
set_option maxRecDepth 100000 in
theorem cmmoonFrom (s0 : State) (D : va_G) (cB cI cJ cD : ClassId) (x0 : Int64) (x2 : Int64) (x4 : Int64) (x : Int64) (h : mmoonFrom x0 x2 x4 = some x) : sC s0 D (zty cB cI cJ cD) yX12_moonFrom cX12_moonFrom 6 (some .long) 1 25 [.long x0, .long x2, .long x4] (.long x) := by
  intro hi hm nx Q hQ0
  have hQ : ∀ r : Int64, x = r → Q (some (.long r)) hi hm nx := fun r hr => by subst hr; exact hQ0
  refine zM_of (by decide +kernel) (Nat.le_of_ble_eq_true rfl) ?_
  unfold mmoonFrom at h
  refine zV_eq (lo2 := [(0, .long x0), (2, .long x2), (4, .long x4)]) rfl rfl rfl rfl ?_
  refine zV_blk (pc' := 6) (lo' := [(0, .long x0), (2, .long x2), (4, .long x4)]) (st' := [.long x2, .long ((-x0) * x4)]) [.lload_n 0, .lneg, .lload 4, .lmul, .lload_n 2] (by decide +kernel) rfl ?_
  obtain ⟨v1, hv1, h⟩ := zbind h
  refine zV_sC (idx := 28) (rest := []) (cmfloor s0 D cB cI cJ cD ((-x0) * x4) x2 v1 hv1) oX12_floor (zT_mem 1698 (by decide +kernel) rfl) (zT_mem 1699 (by decide +kernel) rfl) rfl rfl (Nat.le_of_ble_eq_true rfl) ⟨by decide, by decide⟩ (by decide +kernel) ?_
  refine zV_eq (st2 := [.long v1]) rfl rfl rfl rfl ?_
  refine zV_blk (pc' := 10) (lo' := [(0, .long x0), (2, .long x2), (4, .long x4)]) (st' := [.long (-v1)]) [.lneg] (by decide +kernel) rfl ?_
  obtain rfl := Option.some.inj h
  exact zV_lret rfl (by decide +kernel) (hQ _ rfl)

def mmoonDay (x0 : Int64) (x2 : Int64) (x4 : Int64) : Option (Int64) := (mfloor (x0 * x2) x4).bind (fun v1 => some v1)
theorem oX12_moonDay : zO yX12_moonDay cX12_moonDay 6 (some .long) 3 := ⟨zT_mem 2006 (by decide +kernel) rfl, zT_mem 94 (by decide +kernel) rfl, by decide +kernel, by decide +kernel, by decide +kernel⟩
set_option maxHeartbeats 4000000 in
set_option maxRecDepth 100000 in
theorem cmmoonDay (s0 : State) (D : va_G) (cB cI cJ cD : ClassId) (x0 : Int64) (x2 : Int64) (x4 : Int64) (x : Int64) (h : mmoonDay x0 x2 x4 = some x) : sC s0 D (zty cB cI cJ cD) yX12_moonDay cX12_moonDay 6 (some .long) 1 25 [.long x0, .long x2, .long x4] (.long x) := by
  intro hi hm nx Q hQ0
  have hQ : ∀ r : Int64, x = r → Q (some (.long r)) hi hm nx := fun r hr => by subst hr; exact hQ0
  refine zM_of (by decide +kernel) (Nat.le_of_ble_eq_true rfl) ?_
  unfold mmoonDay at h
  refine zV_eq (lo2 := [(0, .long x0), (2, .long x2), (4, .long x4)]) rfl rfl rfl rfl ?_
  refine zV_blk (pc' := 5) (lo' := [(0, .long x0), (2, .long x2), (4, .long x4)]) (st' := [.long x4, .long (x0 * x2)]) [.lload_n 0, .lload_n 2, .lmul, .lload 4] (by decide +kernel) rfl ?_
  obtain ⟨v1, hv1, h⟩ := zbind h
  refine zV_sC (idx := 28) (rest := []) (cmfloor s0 D cB cI cJ cD (x0 * x2) x4 v1 hv1) oX12_floor (zT_mem 1698 (by decide +kernel) rfl) (zT_mem 1699 (by decide +kernel) rfl) rfl rfl (Nat.le_of_ble_eq_true rfl) ⟨by decide, by decide⟩ (by decide +kernel) ?_
  refine zV_eq (st2 := [.long v1]) rfl rfl rfl rfl ?_
  obtain rfl := Option.some.inj h
  exact zV_lret rfl (by decide +kernel) (hQ _ rfl)

