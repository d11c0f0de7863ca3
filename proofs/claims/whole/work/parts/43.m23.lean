def mlike_75 (n : Nat) (F : Nat → Int32) (w : Nat → Int32) (x3 : Int32) (x4 : Int32) (s : Int32) : Option ((Int32) ⊕ (Int32 × (Nat → Int32))) := zck (zin ((x3 + 8)) 35802) ((if ((w ((x3 + 8) : Int32).toNatClampNeg) : Int32) ≤ (s : Int32) then some (.inr ((-1), F)) else (mareLike n w x3 x4 s).bind (fun v1 => (if v1 = true then some (.inr (s, F)) else some (.inl (s + 1))))))
set_option maxHeartbeats 4000000 in
set_option maxRecDepth 100000 in
theorem cmlike_75 (s0 : State) (D : va_G) (cB cI cJ cD : ClassId) (am a1 a2 a3 : Nat) (F : Nat → Int32) (G : Nat → Int64) (tp : Nat → Int32) (w : Nat → Int32) (oc : Nat → Int32) (n : Nat) (x3 : Int32) (x4 : Int32) (s : Int32) (x : (Int32) ⊕ (Int32 × (Nat → Int32))) {hi hm : zHp} {nx : Nat} {Q : Option Value → zHp → zHp → Nat → Prop} {hm0 : zHp} (hW : mW cB cI am a1 a2 a3 F G tp w oc hm) (hFr : mFr am a1 a2 a3 hm0 hm) (h : mlike_75 n F w x3 x4 s = some x) (hL75 : ∀ s : Int32, x = (.inl s) → ∀ hm', mW cB cI am a1 a2 a3 F G tp w oc hm' → mFr am a1 a2 a3 hm0 hm' → zV s0 D (zty cB cI cJ cD) yX12_like cX12_like 6 (some .int) 4 96 0 0 75 [(0, .ref am), (3, .int x3), (4, .int x4), (5, .int s)] [] hi hm' nx Q) (hQ : ∀ r : Int32 × (Nat → Int32), x = (.inr r) → ∀ hm', mW cB cI am a1 a2 a3 r.2 G tp w oc hm' → mFr am a1 a2 a3 hm0 hm' → Q (some (.int r.1)) hi hm' nx) : zV s0 D (zty cB cI cJ cD) yX12_like cX12_like 6 (some .int) 4 96 0 0 75 [(0, .ref am), (3, .int x3), (4, .int x4), (5, .int s)] [] hi hm nx Q := by
  unfold mlike_75 at h
  refine zV_blk (pc' := 78) (lo' := [(0, .ref am), (3, .int x3), (4, .int x4), (5, .int s)]) (st' := [.ref am, .int s]) [.iload 5, .aload_n 0] (by decide +kernel) rfl ?_
  refine m_get (idx := 18) (k := 12) (v := .ref a2) hW m_in12 (by decide) (zT_mem 1452 (by decide +kernel) rfl) rfl (by decide +kernel) ?_
  refine zV_blk (pc' := 85) (lo' := [(0, .ref am), (3, .int x3), (4, .int x4), (5, .int s)]) (st' := [.int (x3 + 8), .ref a2, .int s]) [.iload_n 3, .bipush 8, .iadd] (by decide +kernel) rfl ?_
  obtain ⟨hz, h⟩ := zck_some h
  refine m_wld hW hz (by decide +kernel) ?_
  refine zV_icmp_ge (tgt := 110) (off := 24) (by decide +kernel) (by decide) (fun q => ?_) (fun q => ?_)
  · replace h := zif_pos q h
    clear q
    refine zV_blk (pc' := 111) (lo' := [(0, .ref am), (3, .int x3), (4, .int x4), (5, .int s)]) (st' := [.int (-1)]) [.iconst (-1)] (by decide +kernel) rfl ?_
    obtain rfl := Option.some.inj h
    exact zV_iret rfl (by decide +kernel) (hQ _ rfl hm hW hFr)
  · replace h := zif_neg q h
    clear q
    refine zV_blk (pc' := 95) (lo' := [(0, .ref am), (3, .int x3), (4, .int x4), (5, .int s)]) (st' := [.int s, .int x4, .int x3, .ref am]) [.aload_n 0, .iload_n 3, .iload 4, .iload 5] (by decide +kernel) rfl ?_
    obtain ⟨v1, hv1, h⟩ := zbind h
    refine m_cR (idx := 439) (rest := []) hW (cmareLike s0 D cB cI cJ cD am a1 a2 a3 F G tp w oc n x3 x4 s v1 hv1) oX12_areLike rfl (zT_mem 2050 (by decide +kernel) rfl) (zT_mem 2052 (by decide +kernel) rfl) (zT_mem 85 (by decide +kernel) rfl) rfl rfl (Nat.le_of_ble_eq_true rfl) ⟨by decide, by decide⟩ (by decide +kernel) ?_
    refine zV_eq (st2 := [.int (zb v1)]) rfl rfl rfl rfl ?_
    refine zV_bif_eq (tgt := 104) (off := 6) (by decide +kernel) (by decide) (fun q => ?_) (fun q => ?_)
    · replace h := zif_neg q h
      clear q
      refine zV_blk (pc' := 107) (lo' := [(5, .int (s + 1)), (0, .ref am), (3, .int x3), (4, .int x4)]) (st' := []) [.iinc 5 1] (by decide +kernel) rfl ?_
      refine zV_goto (tgt := 75) (off := -32) (by decide +kernel) (by decide) ?_
      obtain rfl := Option.some.inj h
      refine zV_pick (lo2 := [(0, .ref am), (3, .int x3), (4, .int x4), (5, .int (s + 1))]) [1, 2, 3, 0] rfl ?_
      exact hL75 _ rfl hm hW hFr
    · replace h := zif_pos q h
      clear q
      refine zV_blk (pc' := 103) (lo' := [(0, .ref am), (3, .int x3), (4, .int x4), (5, .int s)]) (st' := [.int s]) [.iload 5] (by decide +kernel) rfl ?_
      obtain rfl := Option.some.inj h
      exact zV_iret rfl (by decide +kernel) (hQ _ rfl hm hW hFr)
theorem cmlike_75L (s0 : State) (D : va_G) (cB cI cJ cD : ClassId) (am a1 a2 a3 : Nat) (F : Nat → Int32) (G : Nat → Int64) (tp : Nat → Int32) (w : Nat → Int32) (oc : Nat → Int32) (n : Nat) (x3 : Int32) (x4 : Int32) : ∀ (k : Nat) (s : Int32) {hi hm : zHp} {nx : Nat} {Q : Option Value → zHp → zHp → Nat → Prop} {hm0 : zHp} (_ : mW cB cI am a1 a2 a3 F G tp w oc hm) (_ : mFr am a1 a2 a3 hm0 hm) {x : Int32 × (Nat → Int32)} (_ : zloop (mlike_75 n F w x3 x4) k s = some x) (hQ : ∀ r : Int32 × (Nat → Int32), x = r → ∀ hm', mW cB cI am a1 a2 a3 r.2 G tp w oc hm' → mFr am a1 a2 a3 hm0 hm' → Q (some (.int r.1)) hi hm' nx), zV s0 D (zty cB cI cJ cD) yX12_like cX12_like 6 (some .int) 4 96 0 0 75 [(0, .ref am), (3, .int x3), (4, .int x4), (5, .int s)] [] hi hm nx Q
  | 0, s, _, _, _, _, _, hW, hFr, _, h, _ => by cases h
  | k + 1, s, hi, hm, nx, Q, hm0, hW, hFr, x, h, hQ => by
    obtain ⟨z, hz, h1, h2⟩ := zloop_succ h
    exact cmlike_75 s0 D cB cI cJ cD am a1 a2 a3 F G tp w oc n x3 x4 s z hW hFr hz (fun s' hs hm' hW' hFr' => cmlike_75L s0 D cB cI cJ cD am a1 a2 a3 F G tp w oc n x3 x4 k s' hW' hFr' (h1 s' hs) hQ) (fun r hr hm' hW' hFr' => hQ r (h2 _ hr).symm hm' hW' hFr')
def mlike (n : Nat) (F : Nat → Int32) (w : Nat → Int32) (x1 : Int32) (x2 : Int32) : Option (Int32 × (Nat → Int32)) := (misThere w x1).bind (fun v1 => (if v1 = true then (misThere w x2).bind (fun v2 => (if v2 = true then (mbank x1).bind (fun v3 => (mbank x2).bind (fun v4 => zck (zin ((v3 + 8)) 35802) (zck (zin ((v4 + 8)) 35802) ((if ((w ((v3 + 8) : Int32).toNatClampNeg) : Int32) = ((w ((v4 + 8) : Int32).toNatClampNeg) : Int32) then (mleapsInCycle n w v3).bind (fun v5 => (mleapsInCycle n w v4).bind (fun v6 => (if (v5 : Int32) = (v6 : Int32) then (zloop (mlike_75 n (upd F 0 0) w v3 v4) n 0) else some ((-1), (upd F 0 0))))) else some ((-1), (upd F 0 0))))))) else some ((-1), (upd F 0 0)))) else some ((-1), (upd F 0 0))))
theorem oX12_like : zO yX12_like cX12_like 6 (some .int) 2 := ⟨zT_mem 2049 (by decide +kernel) rfl, zT_mem 94 (by decide +kernel) rfl, by decide +kernel, by decide +kernel, by decide +kernel⟩
set_option maxHeartbeats 4000000 in
set_option maxRecDepth 100000 in
theorem cmlike (s0 : State) (D : va_G) (cB cI cJ cD : ClassId) (am a1 a2 a3 : Nat) (F : Nat → Int32) (G : Nat → Int64) (tp w oc : Nat → Int32) (n : Nat) (x1 : Int32) (x2 : Int32) (x : Int32 × (Nat → Int32)) (h : mlike n F w x1 x2 = some x) : mC s0 D cB cI cJ cD am a1 a2 a3 yX12_like cX12_like 6 (some .int) 4 96 [.int x1, .int x2] F G tp w oc (some (.int x.1)) x.2 G tp w oc := by
  intro hi hm nx Q hW hQ0
  have hQ : ∀ r : Int32 × (Nat → Int32), x = r → ∀ hm', mW cB cI am a1 a2 a3 r.2 G tp w oc hm' → mFr am a1 a2 a3 hm hm' → Q (some (.int r.1)) hi hm' nx := fun r hr => by subst hr; exact hQ0
  have hFr : mFr am a1 a2 a3 hm hm := mFr.rf
  clear hQ0
  refine zM_of (by decide +kernel) (Nat.le_of_ble_eq_true rfl) ?_
  unfold mlike at h
  refine zV_eq (lo2 := [(0, .ref am), (1, .int x1), (2, .int x2)]) rfl rfl rfl rfl ?_
  refine zV_blk (pc' := 2) (lo' := [(0, .ref am), (1, .int x1), (2, .int x2)]) (st' := [.int 0, .ref am]) [.aload_n 0, .iconst 0] (by decide +kernel) rfl ?_
  refine m_put (idx := 25) (k := 0) (v := .int 0) (F' := (upd F 0 0)) (G' := G) hW m_in12 (by decide) (zT_mem 1440 (by decide +kernel) rfl) rfl rfl rfl rfl (by decide +kernel) (fun hm hW hFr2 => ?_)
  replace hFr := hFr.tr hFr2; clear hFr2
  refine zV_blk (pc' := 7) (lo' := [(0, .ref am), (1, .int x1), (2, .int x2)]) (st' := [.int x1, .ref am]) [.aload_n 0, .iload_n 1] (by decide +kernel) rfl ?_
  obtain ⟨v1, hv1, h⟩ := zbind h
  refine m_cR (idx := 273) (rest := []) hW (cmisThere s0 D cB cI cJ cD am a1 a2 a3 (upd F 0 0) G tp w oc x1 v1 hv1) oX12_isThere rfl (zT_mem 1686 (by decide +kernel) rfl) (zT_mem 1688 (by decide +kernel) rfl) (zT_mem 49 (by decide +kernel) rfl) rfl rfl (Nat.le_of_ble_eq_true rfl) ⟨by decide, by decide⟩ (by decide +kernel) ?_
  refine zV_eq (st2 := [.int (zb v1)]) rfl rfl rfl rfl ?_
  refine zV_bif_eq (tgt := 21) (off := 11) (by decide +kernel) (by decide) (fun q => ?_) (fun q => ?_)
  · replace h := zif_neg q h
    clear q
    refine zV_blk (pc' := 22) (lo' := [(0, .ref am), (1, .int x1), (2, .int x2)]) (st' := [.int (-1)]) [.iconst (-1)] (by decide +kernel) rfl ?_
    obtain rfl := Option.some.inj h
    exact zV_iret rfl (by decide +kernel) (hQ _ rfl hm hW hFr)
  · replace h := zif_pos q h
    clear q
    refine zV_blk (pc' := 15) (lo' := [(0, .ref am), (1, .int x1), (2, .int x2)]) (st' := [.int x2, .ref am]) [.aload_n 0, .iload_n 2] (by decide +kernel) rfl ?_
    obtain ⟨v2, hv2, h⟩ := zbind h
    refine m_cR (idx := 273) (rest := []) hW (cmisThere s0 D cB cI cJ cD am a1 a2 a3 (upd F 0 0) G tp w oc x2 v2 hv2) oX12_isThere rfl (zT_mem 1686 (by decide +kernel) rfl) (zT_mem 1688 (by decide +kernel) rfl) (zT_mem 49 (by decide +kernel) rfl) rfl rfl (Nat.le_of_ble_eq_true rfl) ⟨by decide, by decide⟩ (by decide +kernel) ?_
    refine zV_eq (st2 := [.int (zb v2)]) rfl rfl rfl rfl ?_
    refine zV_bif_ne (tgt := 23) (off := 5) (by decide +kernel) (by decide) (fun q => ?_) (fun q => ?_)
    · replace h := zif_pos q h
      clear q
      refine zV_blk (pc' := 24) (lo' := [(0, .ref am), (1, .int x1), (2, .int x2)]) (st' := [.int x1]) [.iload_n 1] (by decide +kernel) rfl ?_
      obtain ⟨v3, hv3, h⟩ := zbind h
      refine zV_sC (idx := 118) (rest := []) (cmbank s0 D cB cI cJ cD x1 v3 hv3) oX12_bank (zT_mem 1671 (by decide +kernel) rfl) (zT_mem 1672 (by decide +kernel) rfl) rfl rfl (Nat.le_of_ble_eq_true rfl) ⟨by decide, by decide⟩ (by decide +kernel) ?_
      refine zV_eq (st2 := [.int v3]) rfl rfl rfl rfl ?_
      refine zV_blk (pc' := 29) (lo' := [(3, .int v3), (0, .ref am), (1, .int x1), (2, .int x2)]) (st' := [.int x2]) [.istore_n 3, .iload_n 2] (by decide +kernel) rfl ?_
      obtain ⟨v4, hv4, h⟩ := zbind h
      refine zV_sC (idx := 118) (rest := []) (cmbank s0 D cB cI cJ cD x2 v4 hv4) oX12_bank (zT_mem 1671 (by decide +kernel) rfl) (zT_mem 1672 (by decide +kernel) rfl) rfl rfl (Nat.le_of_ble_eq_true rfl) ⟨by decide, by decide⟩ (by decide +kernel) ?_
      refine zV_eq (st2 := [.int v4]) rfl rfl rfl rfl ?_
      refine zV_blk (pc' := 35) (lo' := [(4, .int v4), (3, .int v3), (0, .ref am), (1, .int x1), (2, .int x2)]) (st' := [.ref am]) [.istore 4, .aload_n 0] (by decide +kernel) rfl ?_
      refine m_get (idx := 18) (k := 12) (v := .ref a2) hW m_in12 (by decide) (zT_mem 1452 (by decide +kernel) rfl) rfl (by decide +kernel) ?_
      refine zV_blk (pc' := 42) (lo' := [(4, .int v4), (3, .int v3), (0, .ref am), (1, .int x1), (2, .int x2)]) (st' := [.int (v3 + 8), .ref a2]) [.iload_n 3, .bipush 8, .iadd] (by decide +kernel) rfl ?_
      obtain ⟨hz, h⟩ := zck_some h
      refine m_wld hW hz (by decide +kernel) ?_
      refine zV_blk (pc' := 44) (lo' := [(4, .int v4), (3, .int v3), (0, .ref am), (1, .int x1), (2, .int x2)]) (st' := [.ref am, .int (w ((v3 + 8) : Int32).toNatClampNeg)]) [.aload_n 0] (by decide +kernel) rfl ?_
      refine m_get (idx := 18) (k := 12) (v := .ref a2) hW m_in12 (by decide) (zT_mem 1452 (by decide +kernel) rfl) rfl (by decide +kernel) ?_
      refine zV_blk (pc' := 52) (lo' := [(4, .int v4), (3, .int v3), (0, .ref am), (1, .int x1), (2, .int x2)]) (st' := [.int (v4 + 8), .ref a2, .int (w ((v3 + 8) : Int32).toNatClampNeg)]) [.iload 4, .bipush 8, .iadd] (by decide +kernel) rfl ?_
      obtain ⟨hz, h⟩ := zck_some h
      refine m_wld hW hz (by decide +kernel) ?_
      refine zV_icmp_ne (tgt := 70) (off := 17) (by decide +kernel) (by decide) (fun q => ?_) (fun q => ?_)
      · replace h := zif_neg q h
        clear q
        refine zV_blk (pc' := 71) (lo' := [(4, .int v4), (3, .int v3), (0, .ref am), (1, .int x1), (2, .int x2)]) (st' := [.int (-1)]) [.iconst (-1)] (by decide +kernel) rfl ?_
        obtain rfl := Option.some.inj h
        exact zV_iret rfl (by decide +kernel) (hQ _ rfl hm hW hFr)
      · replace h := zif_pos q h
        clear q
        refine zV_blk (pc' := 58) (lo' := [(4, .int v4), (3, .int v3), (0, .ref am), (1, .int x1), (2, .int x2)]) (st' := [.int v3, .ref am]) [.aload_n 0, .iload_n 3] (by decide +kernel) rfl ?_
        obtain ⟨v5, hv5, h⟩ := zbind h
        refine m_cR (idx := 276) (rest := []) hW (cmleapsInCycle s0 D cB cI cJ cD am a1 a2 a3 (upd F 0 0) G tp w oc n v3 v5 hv5) oX12_leapsInCycle rfl (zT_mem 1690 (by decide +kernel) rfl) (zT_mem 1692 (by decide +kernel) rfl) (zT_mem 50 (by decide +kernel) rfl) rfl rfl (Nat.le_of_ble_eq_true rfl) ⟨by decide, by decide⟩ (by decide +kernel) ?_
        refine zV_eq (st2 := [.int v5]) rfl rfl rfl rfl ?_
        refine zV_blk (pc' := 64) (lo' := [(4, .int v4), (3, .int v3), (0, .ref am), (1, .int x1), (2, .int x2)]) (st' := [.int v4, .ref am, .int v5]) [.aload_n 0, .iload 4] (by decide +kernel) rfl ?_
        obtain ⟨v6, hv6, h⟩ := zbind h
        refine m_cR (idx := 276) (rest := [.int v5]) hW (cmleapsInCycle s0 D cB cI cJ cD am a1 a2 a3 (upd F 0 0) G tp w oc n v4 v6 hv6) oX12_leapsInCycle rfl (zT_mem 1690 (by decide +kernel) rfl) (zT_mem 1692 (by decide +kernel) rfl) (zT_mem 50 (by decide +kernel) rfl) rfl rfl (Nat.le_of_ble_eq_true rfl) ⟨by decide, by decide⟩ (by decide +kernel) ?_
        refine zV_eq (st2 := [.int v6, .int v5]) rfl rfl rfl rfl ?_
        refine zV_icmp_eq (tgt := 72) (off := 5) (by decide +kernel) (by decide) (fun q => ?_) (fun q => ?_)
        · replace h := zif_pos q h
          clear q
          refine zV_blk (pc' := 75) (lo' := [(5, .int 0), (4, .int v4), (3, .int v3), (0, .ref am), (1, .int x1), (2, .int x2)]) (st' := []) [.iconst 0, .istore 5] (by decide +kernel) rfl ?_
          refine zV_pick (lo2 := [(0, .ref am), (3, .int v3), (4, .int v4), (5, .int 0)]) [3, 2, 1, 0] rfl ?_
          exact cmlike_75L s0 D cB cI cJ cD am a1 a2 a3 (upd F 0 0) G tp w oc n v3 v4 n 0 hW hFr h hQ
        · replace h := zif_neg q h
          clear q
          refine zV_blk (pc' := 71) (lo' := [(4, .int v4), (3, .int v3), (0, .ref am), (1, .int x1), (2, .int x2)]) (st' := [.int (-1)]) [.iconst (-1)] (by decide +kernel) rfl ?_
          obtain rfl := Option.some.inj h
          exact zV_iret rfl (by decide +kernel) (hQ _ rfl hm hW hFr)
    · replace h := zif_neg q h
      clear q
      refine zV_blk (pc' := 22) (lo' := [(0, .ref am), (1, .int x1), (2, .int x2)]) (st' := [.int (-1)]) [.iconst (-1)] (by decide +kernel) rfl ?_
      obtain rfl := Option.some.inj h
      exact zV_iret rfl (by decide +kernel) (hQ _ rfl hm hW hFr)

def mwithin_166 (n : Nat) (F : Nat → Int32) (w : Nat → Int32) (x2 : Int32) (x3 : Int32) (x4 : Int32) (x5 : Int32) (x6 : Int32) (x7 : Int32) (x8 : Int64) (x10 : Int32) : Option ((Int32 × Int64 × Int32) ⊕ ((Int32) ⊕ (Int64 × (Nat → Int32)))) := some (.inl (x7, x8, (x10 + 1)))
set_option maxHeartbeats 4000000 in
set_option maxRecDepth 100000 in
theorem cmwithin_166 (s0 : State) (D : va_G) (cB cI cJ cD : ClassId) (am a1 a2 a3 : Nat) (F : Nat → Int32) (G : Nat → Int64) (tp w oc : Nat → Int32) (n : Nat) (x2 : Int32) (x3 : Int32) (x4 : Int32) (x5 : Int32) (x6 : Int32) (x7 : Int32) (x8 : Int64) (x10 : Int32) {hi hm : zHp} {nx : Nat} {Q : Option Value → zHp → zHp → Nat → Prop} {hm0 : zHp} {x : (Int32 × Int64 × Int32) ⊕ ((Int32) ⊕ (Int64 × (Nat → Int32)))} (hW : mW cB cI am a1 a2 a3 F G tp w oc hm) (hFr : mFr am a1 a2 a3 hm0 hm) (h : mwithin_166 n F w x2 x3 x4 x5 x6 x7 x8 x10 = some x) (hL78 : ∀ s : Int32 × Int64 × Int32, x = (.inl s) → ∀ hm', mW cB cI am a1 a2 a3 F G tp w oc hm' → mFr am a1 a2 a3 hm0 hm' → zV s0 D (zty cB cI cJ cD) yX12_within cX12_within 13 (some .long) 2 46 0 0 78 [(0, .ref am), (2, .int x2), (3, .int x3), (4, .int x4), (5, .int x5), (6, .int x6), (7, .int s.1), (8, .long s.2.1), (10, .int s.2.2)] [] hi hm' nx Q) (hL61 : ∀ s : Int32, x = (.inr (.inl s)) → ∀ hm', mW cB cI am a1 a2 a3 F G tp w oc hm' → mFr am a1 a2 a3 hm0 hm' → zV s0 D (zty cB cI cJ cD) yX12_within cX12_within 13 (some .long) 2 46 0 0 61 [(0, .ref am), (2, .int x2), (3, .int x3), (4, .int x4), (5, .int x5), (6, .int s)] [] hi hm' nx Q) (hQ : ∀ r : Int64 × (Nat → Int32), x = (.inr (.inr r)) → ∀ hm', mW cB cI am a1 a2 a3 r.2 G tp w oc hm' → mFr am a1 a2 a3 hm0 hm' → Q (some (.long r.1)) hi hm' nx) : zV s0 D (zty cB cI cJ cD) yX12_within cX12_within 13 (some .long) 2 46 0 0 166 [(0, .ref am), (2, .int x2), (3, .int x3), (4, .int x4), (5, .int x5), (6, .int x6), (7, .int x7), (8, .long x8), (10, .int x10)] [] hi hm nx Q := by
  unfold mwithin_166 at h
  refine zV_blk (pc' := 169) (lo' := [(10, .int (x10 + 1)), (0, .ref am), (2, .int x2), (3, .int x3), (4, .int x4), (5, .int x5), (6, .int x6), (7, .int x7), (8, .long x8)]) (st' := []) [.iinc 10 1] (by decide +kernel) rfl ?_
  refine zV_goto (tgt := 78) (off := -91) (by decide +kernel) (by decide) ?_
  obtain rfl := Option.some.inj h
  refine zV_pick (lo2 := [(0, .ref am), (2, .int x2), (3, .int x3), (4, .int x4), (5, .int x5), (6, .int x6), (7, .int x7), (8, .long x8), (10, .int (x10 + 1))]) [1, 2, 3, 4, 5, 6, 7, 8, 0] rfl ?_
  exact hL78 _ rfl hm hW hFr
def mwithin_158 (n : Nat) (F : Nat → Int32) (w : Nat → Int32) (x2 : Int32) (x3 : Int32) (x4 : Int32) (x5 : Int32) (x6 : Int32) (x10 : Int32) (x11 : Int64) : Option ((Int32 × Int64 × Int32) ⊕ ((Int32) ⊕ (Int64 × (Nat → Int32)))) := (mwithin_166 n F w x2 x3 x4 x5 x6 x10 x11 x10)
set_option maxHeartbeats 4000000 in
set_option maxRecDepth 100000 in
theorem cmwithin_158 (s0 : State) (D : va_G) (cB cI cJ cD : ClassId) (am a1 a2 a3 : Nat) (F : Nat → Int32) (G : Nat → Int64) (tp w oc : Nat → Int32) (n : Nat) (x2 : Int32) (x3 : Int32) (x4 : Int32) (x5 : Int32) (x6 : Int32) (x10 : Int32) (x11 : Int64) {hi hm : zHp} {nx : Nat} {Q : Option Value → zHp → zHp → Nat → Prop} {hm0 : zHp} {x : (Int32 × Int64 × Int32) ⊕ ((Int32) ⊕ (Int64 × (Nat → Int32)))} (hW : mW cB cI am a1 a2 a3 F G tp w oc hm) (hFr : mFr am a1 a2 a3 hm0 hm) (h : mwithin_158 n F w x2 x3 x4 x5 x6 x10 x11 = some x) (hL78 : ∀ s : Int32 × Int64 × Int32, x = (.inl s) → ∀ hm', mW cB cI am a1 a2 a3 F G tp w oc hm' → mFr am a1 a2 a3 hm0 hm' → zV s0 D (zty cB cI cJ cD) yX12_within cX12_within 13 (some .long) 2 46 0 0 78 [(0, .ref am), (2, .int x2), (3, .int x3), (4, .int x4), (5, .int x5), (6, .int x6), (7, .int s.1), (8, .long s.2.1), (10, .int s.2.2)] [] hi hm' nx Q) (hL61 : ∀ s : Int32, x = (.inr (.inl s)) → ∀ hm', mW cB cI am a1 a2 a3 F G tp w oc hm' → mFr am a1 a2 a3 hm0 hm' → zV s0 D (zty cB cI cJ cD) yX12_within cX12_within 13 (some .long) 2 46 0 0 61 [(0, .ref am), (2, .int x2), (3, .int x3), (4, .int x4), (5, .int x5), (6, .int s)] [] hi hm' nx Q) (hQ : ∀ r : Int64 × (Nat → Int32), x = (.inr (.inr r)) → ∀ hm', mW cB cI am a1 a2 a3 r.2 G tp w oc hm' → mFr am a1 a2 a3 hm0 hm' → Q (some (.long r.1)) hi hm' nx) : zV s0 D (zty cB cI cJ cD) yX12_within cX12_within 13 (some .long) 2 46 0 0 158 [(0, .ref am), (2, .int x2), (3, .int x3), (4, .int x4), (5, .int x5), (6, .int x6), (10, .int x10), (11, .long x11)] [] hi hm nx Q := by
  unfold mwithin_158 at h
  refine zV_blk (pc' := 166) (lo' := [(7, .int x10), (8, .long x11), (0, .ref am), (2, .int x2), (3, .int x3), (4, .int x4), (5, .int x5), (6, .int x6), (10, .int x10), (11, .long x11)]) (st' := []) [.lload 11, .lstore 8, .iload 10, .istore 7] (by decide +kernel) rfl ?_
  refine zV_pick (lo2 := [(0, .ref am), (2, .int x2), (3, .int x3), (4, .int x4), (5, .int x5), (6, .int x6), (7, .int x10), (8, .long x11), (10, .int x10)]) [2, 3, 4, 5, 6, 7, 0, 1, 8] rfl ?_
  exact cmwithin_166 s0 D cB cI cJ cD am a1 a2 a3 F G tp w oc n x2 x3 x4 x5 x6 x10 x11 x10 hW hFr h hL78 hL61 hQ
def mwithin_78 (n : Nat) (F : Nat → Int32) (w : Nat → Int32) (x2 : Int32) (x3 : Int32) (x4 : Int32) (x5 : Int32) (x6 : Int32) (s : Int32 × Int64 × Int32) : Option ((Int32 × Int64 × Int32) ⊕ ((Int32) ⊕ (Int64 × (Nat → Int32)))) := (if (x6 : Int32) < (s.2.2 : Int32) then zck (zin ((x5 + 14)) 35802) ((if ((((x3 : Int32).toInt64 * (x6 : Int32).toInt64) * ((w ((x5 + 14) : Int32).toNatClampNeg) : Int32).toInt64) : Int64) < ((s.2.1 * (x2 : Int32).toInt64) : Int64) then some (.inr (.inl (x6 + 1))) else (if (x4 : Int32) = (0 : Int32) then some (.inr (.inr ((x6 : Int32).toInt64, F))) else some (.inr (.inr ((s.1 : Int32).toInt64, F)))))) else zck (zin ((x5 + 1)) 35802) (zck (zin ((x5 + 2)) 35802) (zck (zin ((x5 + 14)) 35802) ((mtrueAbove w x5).bind (fun v1 => (msize ((((((w ((x5 + 1) : Int32).toNatClampNeg) : Int32).toInt64 * (x6 : Int32).toInt64) + (((w ((x5 + 2) : Int32).toNatClampNeg) : Int32).toInt64 * (s.2.2 : Int32).toInt64)) * ((w ((x5 + 14) : Int32).toNatClampNeg) : Int32).toInt64) - (v1 * (x6 : Int32).toInt64))).bind (fun v2 => (if (s.2.2 : Int32) ≤ (0 : Int32) then (mwithin_158 n F w x2 x3 x4 x5 x6 s.2.2 v2) else (if (v2 : Int64) < (s.2.1 : Int64) then (mwithin_158 n F w x2 x3 x4 x5 x6 s.2.2 v2) else (mwithin_166 n F w x2 x3 x4 x5 x6 s.1 s.2.1 s.2.2)))))))))
set_option maxHeartbeats 4000000 in
set_option maxRecDepth 100000 in
theorem cmwithin_78 (s0 : State) (D : va_G) (cB cI cJ cD : ClassId) (am a1 a2 a3 : Nat) (F : Nat → Int32) (G : Nat → Int64) (tp : Nat → Int32) (w : Nat → Int32) (oc : Nat → Int32) (n : Nat) (x2 : Int32) (x3 : Int32) (x4 : Int32) (x5 : Int32) (x6 : Int32) (s : Int32 × Int64 × Int32) (x : (Int32 × Int64 × Int32) ⊕ ((Int32) ⊕ (Int64 × (Nat → Int32)))) {hi hm : zHp} {nx : Nat} {Q : Option Value → zHp → zHp → Nat → Prop} {hm0 : zHp} (hW : mW cB cI am a1 a2 a3 F G tp w oc hm) (hFr : mFr am a1 a2 a3 hm0 hm) (h : mwithin_78 n F w x2 x3 x4 x5 x6 s = some x) (hL78 : ∀ s : Int32 × Int64 × Int32, x = (.inl s) → ∀ hm', mW cB cI am a1 a2 a3 F G tp w oc hm' → mFr am a1 a2 a3 hm0 hm' → zV s0 D (zty cB cI cJ cD) yX12_within cX12_within 13 (some .long) 2 46 0 0 78 [(0, .ref am), (2, .int x2), (3, .int x3), (4, .int x4), (5, .int x5), (6, .int x6), (7, .int s.1), (8, .long s.2.1), (10, .int s.2.2)] [] hi hm' nx Q) (hL61 : ∀ s : Int32, x = (.inr (.inl s)) → ∀ hm', mW cB cI am a1 a2 a3 F G tp w oc hm' → mFr am a1 a2 a3 hm0 hm' → zV s0 D (zty cB cI cJ cD) yX12_within cX12_within 13 (some .long) 2 46 0 0 61 [(0, .ref am), (2, .int x2), (3, .int x3), (4, .int x4), (5, .int x5), (6, .int s)] [] hi hm' nx Q) (hQ : ∀ r : Int64 × (Nat → Int32), x = (.inr (.inr r)) → ∀ hm', mW cB cI am a1 a2 a3 r.2 G tp w oc hm' → mFr am a1 a2 a3 hm0 hm' → Q (some (.long r.1)) hi hm' nx) : zV s0 D (zty cB cI cJ cD) yX12_within cX12_within 13 (some .long) 2 46 0 0 78 [(0, .ref am), (2, .int x2), (3, .int x3), (4, .int x4), (5, .int x5), (6, .int x6), (7, .int s.1), (8, .long s.2.1), (10, .int s.2.2)] [] hi hm nx Q := by
  unfold mwithin_78 at h
  refine zV_blk (pc' := 82) (lo' := [(0, .ref am), (2, .int x2), (3, .int x3), (4, .int x4), (5, .int x5), (6, .int x6), (7, .int s.1), (8, .long s.2.1), (10, .int s.2.2)]) (st' := [.int x6, .int s.2.2]) [.iload 10, .iload 6] (by decide +kernel) rfl ?_
  refine zV_icmp_gt (tgt := 172) (off := 90) (by decide +kernel) (by decide) (fun q => ?_) (fun q => ?_)
  · replace h := zif_pos q h
    clear q
    refine zV_blk (pc' := 184) (lo' := [(0, .ref am), (2, .int x2), (3, .int x3), (4, .int x4), (5, .int x5), (6, .int x6), (7, .int s.1), (8, .long s.2.1), (10, .int s.2.2)]) (st' := [.ref am, .long ((x3 : Int32).toInt64 * (x6 : Int32).toInt64), .long (s.2.1 * (x2 : Int32).toInt64)]) [.lload 8, .iload_n 2, .i2l, .lmul, .iload_n 3, .i2l, .iload 6, .i2l, .lmul, .aload_n 0] (by decide +kernel) rfl ?_
    refine m_get (idx := 18) (k := 12) (v := .ref a2) hW m_in12 (by decide) (zT_mem 1452 (by decide +kernel) rfl) rfl (by decide +kernel) ?_
    refine zV_blk (pc' := 192) (lo' := [(0, .ref am), (2, .int x2), (3, .int x3), (4, .int x4), (5, .int x5), (6, .int x6), (7, .int s.1), (8, .long s.2.1), (10, .int s.2.2)]) (st' := [.int (x5 + 14), .ref a2, .long ((x3 : Int32).toInt64 * (x6 : Int32).toInt64), .long (s.2.1 * (x2 : Int32).toInt64)]) [.iload 5, .bipush 14, .iadd] (by decide +kernel) rfl ?_
    obtain ⟨hz, h⟩ := zck_some h
    refine m_wld hW hz (by decide +kernel) ?_
    refine zV_blk (pc' := 196) (lo' := [(0, .ref am), (2, .int x2), (3, .int x3), (4, .int x4), (5, .int x5), (6, .int x6), (7, .int s.1), (8, .long s.2.1), (10, .int s.2.2)]) (st' := [.int (lg_cmp (s.2.1 * (x2 : Int32).toInt64) (((x3 : Int32).toInt64 * (x6 : Int32).toInt64) * ((w ((x5 + 14) : Int32).toNatClampNeg) : Int32).toInt64))]) [.i2l, .lmul, .lcmp] (by decide +kernel) rfl ?_
    refine zV_lcmp_gt (tgt := 214) (off := 18) (by decide +kernel) (by decide) (fun q => ?_) (fun q => ?_)
    · replace h := zif_pos q h
      clear q
      refine zV_blk (pc' := 217) (lo' := [(6, .int (x6 + 1)), (0, .ref am), (2, .int x2), (3, .int x3), (4, .int x4), (5, .int x5), (7, .int s.1), (8, .long s.2.1), (10, .int s.2.2)]) (st' := []) [.iinc 6 1] (by decide +kernel) rfl ?_
      refine zV_goto (tgt := 61) (off := -156) (by decide +kernel) (by decide) ?_
      obtain rfl := Option.some.inj h
      refine zV_pick (lo2 := [(0, .ref am), (2, .int x2), (3, .int x3), (4, .int x4), (5, .int x5), (6, .int (x6 + 1))]) [1, 2, 3, 4, 5, 0] rfl ?_
      exact hL61 _ rfl hm hW hFr
    · replace h := zif_neg q h
      clear q
      refine zV_blk (pc' := 201) (lo' := [(0, .ref am), (2, .int x2), (3, .int x3), (4, .int x4), (5, .int x5), (6, .int x6), (7, .int s.1), (8, .long s.2.1), (10, .int s.2.2)]) (st' := [.int x4]) [.iload 4] (by decide +kernel) rfl ?_
      refine zV_if_ne (tgt := 210) (off := 9) (by decide +kernel) (by decide) (fun q => ?_) (fun q => ?_)
      · replace h := zif_neg q h
        clear q
        refine zV_blk (pc' := 213) (lo' := [(0, .ref am), (2, .int x2), (3, .int x3), (4, .int x4), (5, .int x5), (6, .int x6), (7, .int s.1), (8, .long s.2.1), (10, .int s.2.2)]) (st' := [.long (s.1 : Int32).toInt64]) [.iload 7, .i2l] (by decide +kernel) rfl ?_
        obtain rfl := Option.some.inj h
        exact zV_lret rfl (by decide +kernel) (hQ _ rfl hm hW hFr)
      · replace h := zif_pos q h
        clear q
        refine zV_blk (pc' := 207) (lo' := [(0, .ref am), (2, .int x2), (3, .int x3), (4, .int x4), (5, .int x5), (6, .int x6), (7, .int s.1), (8, .long s.2.1), (10, .int s.2.2)]) (st' := [.long (x6 : Int32).toInt64]) [.iload 6, .i2l] (by decide +kernel) rfl ?_
        refine zV_goto (tgt := 213) (off := 6) (by decide +kernel) (by decide) ?_
        obtain rfl := Option.some.inj h
        exact zV_lret rfl (by decide +kernel) (hQ _ rfl hm hW hFr)
  · replace h := zif_neg q h
    clear q
    refine zV_blk (pc' := 86) (lo' := [(0, .ref am), (2, .int x2), (3, .int x3), (4, .int x4), (5, .int x5), (6, .int x6), (7, .int s.1), (8, .long s.2.1), (10, .int s.2.2)]) (st' := [.ref am]) [.aload_n 0] (by decide +kernel) rfl ?_
    refine m_get (idx := 18) (k := 12) (v := .ref a2) hW m_in12 (by decide) (zT_mem 1452 (by decide +kernel) rfl) rfl (by decide +kernel) ?_
    refine zV_blk (pc' := 93) (lo' := [(0, .ref am), (2, .int x2), (3, .int x3), (4, .int x4), (5, .int x5), (6, .int x6), (7, .int s.1), (8, .long s.2.1), (10, .int s.2.2)]) (st' := [.int (x5 + 1), .ref a2]) [.iload 5, .iconst 1, .iadd] (by decide +kernel) rfl ?_
    obtain ⟨hz, h⟩ := zck_some h
    refine m_wld hW hz (by decide +kernel) ?_
    refine zV_blk (pc' := 100) (lo' := [(0, .ref am), (2, .int x2), (3, .int x3), (4, .int x4), (5, .int x5), (6, .int x6), (7, .int s.1), (8, .long s.2.1), (10, .int s.2.2)]) (st' := [.ref am, .long (((w ((x5 + 1) : Int32).toNatClampNeg) : Int32).toInt64 * (x6 : Int32).toInt64)]) [.i2l, .iload 6, .i2l, .lmul, .aload_n 0] (by decide +kernel) rfl ?_
    refine m_get (idx := 18) (k := 12) (v := .ref a2) hW m_in12 (by decide) (zT_mem 1452 (by decide +kernel) rfl) rfl (by decide +kernel) ?_
    refine zV_blk (pc' := 107) (lo' := [(0, .ref am), (2, .int x2), (3, .int x3), (4, .int x4), (5, .int x5), (6, .int x6), (7, .int s.1), (8, .long s.2.1), (10, .int s.2.2)]) (st' := [.int (x5 + 2), .ref a2, .long (((w ((x5 + 1) : Int32).toNatClampNeg) : Int32).toInt64 * (x6 : Int32).toInt64)]) [.iload 5, .iconst 2, .iadd] (by decide +kernel) rfl ?_
    obtain ⟨hz, h⟩ := zck_some h
    refine m_wld hW hz (by decide +kernel) ?_
    refine zV_blk (pc' := 115) (lo' := [(0, .ref am), (2, .int x2), (3, .int x3), (4, .int x4), (5, .int x5), (6, .int x6), (7, .int s.1), (8, .long s.2.1), (10, .int s.2.2)]) (st' := [.ref am, .long ((((w ((x5 + 1) : Int32).toNatClampNeg) : Int32).toInt64 * (x6 : Int32).toInt64) + (((w ((x5 + 2) : Int32).toNatClampNeg) : Int32).toInt64 * (s.2.2 : Int32).toInt64))]) [.i2l, .iload 10, .i2l, .lmul, .ladd, .aload_n 0] (by decide +kernel) rfl ?_
    refine m_get (idx := 18) (k := 12) (v := .ref a2) hW m_in12 (by decide) (zT_mem 1452 (by decide +kernel) rfl) rfl (by decide +kernel) ?_
    refine zV_blk (pc' := 123) (lo' := [(0, .ref am), (2, .int x2), (3, .int x3), (4, .int x4), (5, .int x5), (6, .int x6), (7, .int s.1), (8, .long s.2.1), (10, .int s.2.2)]) (st' := [.int (x5 + 14), .ref a2, .long ((((w ((x5 + 1) : Int32).toNatClampNeg) : Int32).toInt64 * (x6 : Int32).toInt64) + (((w ((x5 + 2) : Int32).toNatClampNeg) : Int32).toInt64 * (s.2.2 : Int32).toInt64))]) [.iload 5, .bipush 14, .iadd] (by decide +kernel) rfl ?_
    obtain ⟨hz, h⟩ := zck_some h
    refine m_wld hW hz (by decide +kernel) ?_
    refine zV_blk (pc' := 129) (lo' := [(0, .ref am), (2, .int x2), (3, .int x3), (4, .int x4), (5, .int x5), (6, .int x6), (7, .int s.1), (8, .long s.2.1), (10, .int s.2.2)]) (st' := [.int x5, .ref am, .long (((((w ((x5 + 1) : Int32).toNatClampNeg) : Int32).toInt64 * (x6 : Int32).toInt64) + (((w ((x5 + 2) : Int32).toNatClampNeg) : Int32).toInt64 * (s.2.2 : Int32).toInt64)) * ((w ((x5 + 14) : Int32).toNatClampNeg) : Int32).toInt64)]) [.i2l, .lmul, .aload_n 0, .iload 5] (by decide +kernel) rfl ?_
    obtain ⟨v1, hv1, h⟩ := zbind h
    refine m_cR (idx := 282) (rest := [.long (((((w ((x5 + 1) : Int32).toNatClampNeg) : Int32).toInt64 * (x6 : Int32).toInt64) + (((w ((x5 + 2) : Int32).toNatClampNeg) : Int32).toInt64 * (s.2.2 : Int32).toInt64)) * ((w ((x5 + 14) : Int32).toNatClampNeg) : Int32).toInt64)]) hW (cmtrueAbove s0 D cB cI cJ cD am a1 a2 a3 F G tp w oc x5 v1 hv1) oX12_trueAbove rfl (zT_mem 1729 (by decide +kernel) rfl) (zT_mem 1731 (by decide +kernel) rfl) (zT_mem 55 (by decide +kernel) rfl) rfl rfl (Nat.le_of_ble_eq_true rfl) ⟨by decide, by decide⟩ (by decide +kernel) ?_
    refine zV_eq (st2 := [.long v1, .long (((((w ((x5 + 1) : Int32).toNatClampNeg) : Int32).toInt64 * (x6 : Int32).toInt64) + (((w ((x5 + 2) : Int32).toNatClampNeg) : Int32).toInt64 * (s.2.2 : Int32).toInt64)) * ((w ((x5 + 14) : Int32).toNatClampNeg) : Int32).toInt64)]) rfl rfl rfl rfl ?_
    refine zV_blk (pc' := 137) (lo' := [(0, .ref am), (2, .int x2), (3, .int x3), (4, .int x4), (5, .int x5), (6, .int x6), (7, .int s.1), (8, .long s.2.1), (10, .int s.2.2)]) (st' := [.long ((((((w ((x5 + 1) : Int32).toNatClampNeg) : Int32).toInt64 * (x6 : Int32).toInt64) + (((w ((x5 + 2) : Int32).toNatClampNeg) : Int32).toInt64 * (s.2.2 : Int32).toInt64)) * ((w ((x5 + 14) : Int32).toNatClampNeg) : Int32).toInt64) - (v1 * (x6 : Int32).toInt64))]) [.iload 6, .i2l, .lmul, .lsub] (by decide +kernel) rfl ?_
    obtain ⟨v2, hv2, h⟩ := zbind h
    refine zV_sC (idx := 32) (rest := []) (cmsize s0 D cB cI cJ cD ((((((w ((x5 + 1) : Int32).toNatClampNeg) : Int32).toInt64 * (x6 : Int32).toInt64) + (((w ((x5 + 2) : Int32).toNatClampNeg) : Int32).toInt64 * (s.2.2 : Int32).toInt64)) * ((w ((x5 + 14) : Int32).toNatClampNeg) : Int32).toInt64) - (v1 * (x6 : Int32).toInt64)) v2 hv2) oX12_size (zT_mem 1739 (by decide +kernel) rfl) (zT_mem 1740 (by decide +kernel) rfl) rfl rfl (Nat.le_of_ble_eq_true rfl) ⟨by decide, by decide⟩ (by decide +kernel) ?_
    refine zV_eq (st2 := [.long v2]) rfl rfl rfl rfl ?_
    refine zV_blk (pc' := 144) (lo' := [(11, .long v2), (0, .ref am), (2, .int x2), (3, .int x3), (4, .int x4), (5, .int x5), (6, .int x6), (7, .int s.1), (8, .long s.2.1), (10, .int s.2.2)]) (st' := [.int s.2.2]) [.lstore 11, .iload 10] (by decide +kernel) rfl ?_
    refine zV_if_le (tgt := 158) (off := 14) (by decide +kernel) (by decide) (fun q => ?_) (fun q => ?_)
    · replace h := zif_pos q h
      clear q
      refine zV_pick (lo2 := [(0, .ref am), (2, .int x2), (3, .int x3), (4, .int x4), (5, .int x5), (6, .int x6), (10, .int s.2.2), (11, .long v2)]) [1, 2, 3, 4, 5, 6, 9, 0] rfl ?_
      exact cmwithin_158 s0 D cB cI cJ cD am a1 a2 a3 F G tp w oc n x2 x3 x4 x5 x6 s.2.2 v2 hW hFr h hL78 hL61 hQ
    · replace h := zif_neg q h
      clear q
      refine zV_blk (pc' := 152) (lo' := [(11, .long v2), (0, .ref am), (2, .int x2), (3, .int x3), (4, .int x4), (5, .int x5), (6, .int x6), (7, .int s.1), (8, .long s.2.1), (10, .int s.2.2)]) (st' := [.int (lg_cmp v2 s.2.1)]) [.lload 11, .lload 8, .lcmp] (by decide +kernel) rfl ?_
      refine zV_lcmp_lt (tgt := 158) (off := 6) (by decide +kernel) (by decide) (fun q => ?_) (fun q => ?_)
      · replace h := zif_pos q h
        clear q
        refine zV_pick (lo2 := [(0, .ref am), (2, .int x2), (3, .int x3), (4, .int x4), (5, .int x5), (6, .int x6), (10, .int s.2.2), (11, .long v2)]) [1, 2, 3, 4, 5, 6, 9, 0] rfl ?_
        exact cmwithin_158 s0 D cB cI cJ cD am a1 a2 a3 F G tp w oc n x2 x3 x4 x5 x6 s.2.2 v2 hW hFr h hL78 hL61 hQ
      · replace h := zif_neg q h
        clear q
        refine zV_goto (tgt := 166) (off := 11) (by decide +kernel) (by decide) ?_
        refine zV_pick (lo2 := [(0, .ref am), (2, .int x2), (3, .int x3), (4, .int x4), (5, .int x5), (6, .int x6), (7, .int s.1), (8, .long s.2.1), (10, .int s.2.2)]) [1, 2, 3, 4, 5, 6, 7, 8, 9] rfl ?_
        exact cmwithin_166 s0 D cB cI cJ cD am a1 a2 a3 F G tp w oc n x2 x3 x4 x5 x6 s.1 s.2.1 s.2.2 hW hFr h hL78 hL61 hQ
theorem cmwithin_78L (s0 : State) (D : va_G) (cB cI cJ cD : ClassId) (am a1 a2 a3 : Nat) (F : Nat → Int32) (G : Nat → Int64) (tp : Nat → Int32) (w : Nat → Int32) (oc : Nat → Int32) (n : Nat) (x2 : Int32) (x3 : Int32) (x4 : Int32) (x5 : Int32) (x6 : Int32) : ∀ (k : Nat) (s : Int32 × Int64 × Int32) {hi hm : zHp} {nx : Nat} {Q : Option Value → zHp → zHp → Nat → Prop} {hm0 : zHp} (_ : mW cB cI am a1 a2 a3 F G tp w oc hm) (_ : mFr am a1 a2 a3 hm0 hm) {x : (Int32) ⊕ (Int64 × (Nat → Int32))} (_ : zloop (mwithin_78 n F w x2 x3 x4 x5 x6) k s = some x) (hL61 : ∀ s : Int32, x = (.inl s) → ∀ hm', mW cB cI am a1 a2 a3 F G tp w oc hm' → mFr am a1 a2 a3 hm0 hm' → zV s0 D (zty cB cI cJ cD) yX12_within cX12_within 13 (some .long) 2 46 0 0 61 [(0, .ref am), (2, .int x2), (3, .int x3), (4, .int x4), (5, .int x5), (6, .int s)] [] hi hm' nx Q) (hQ : ∀ r : Int64 × (Nat → Int32), x = (.inr r) → ∀ hm', mW cB cI am a1 a2 a3 r.2 G tp w oc hm' → mFr am a1 a2 a3 hm0 hm' → Q (some (.long r.1)) hi hm' nx), zV s0 D (zty cB cI cJ cD) yX12_within cX12_within 13 (some .long) 2 46 0 0 78 [(0, .ref am), (2, .int x2), (3, .int x3), (4, .int x4), (5, .int x5), (6, .int x6), (7, .int s.1), (8, .long s.2.1), (10, .int s.2.2)] [] hi hm nx Q
  | 0, s, _, _, _, _, _, hW, hFr, _, h, _, _ => by cases h
  | k + 1, s, hi, hm, nx, Q, hm0, hW, hFr, x, h, hL61, hQ => by
    obtain ⟨z, hz, h1, h2⟩ := zloop_succ h
    exact cmwithin_78 s0 D cB cI cJ cD am a1 a2 a3 F G tp w oc n x2 x3 x4 x5 x6 s z hW hFr hz (fun s' hs hm' hW' hFr' => cmwithin_78L s0 D cB cI cJ cD am a1 a2 a3 F G tp w oc n x2 x3 x4 x5 x6 k s' hW' hFr' (h1 s' hs) hL61 hQ) (fun s' hs hm' hW' hFr' => hL61 s' (h2 _ hs).symm hm' hW' hFr') (fun r hr hm' hW' hFr' => hQ r (h2 _ hr).symm hm' hW' hFr')
def mwithin_61 (n : Nat) (F : Nat → Int32) (w : Nat → Int32) (x2 : Int32) (x3 : Int32) (x4 : Int32) (x5 : Int32) (s : Int32) : Option ((Int32) ⊕ (Int64 × (Nat → Int32))) := (if (1000 : Int32) < (s : Int32) then some (.inr ((-1000000000000000), F)) else (zloop (mwithin_78 n F w x2 x3 x4 x5 s) n (0, 0, 0)))
set_option maxHeartbeats 4000000 in
set_option maxRecDepth 100000 in
theorem cmwithin_61 (s0 : State) (D : va_G) (cB cI cJ cD : ClassId) (am a1 a2 a3 : Nat) (F : Nat → Int32) (G : Nat → Int64) (tp : Nat → Int32) (w : Nat → Int32) (oc : Nat → Int32) (n : Nat) (x2 : Int32) (x3 : Int32) (x4 : Int32) (x5 : Int32) (s : Int32) (x : (Int32) ⊕ (Int64 × (Nat → Int32))) {hi hm : zHp} {nx : Nat} {Q : Option Value → zHp → zHp → Nat → Prop} {hm0 : zHp} (hW : mW cB cI am a1 a2 a3 F G tp w oc hm) (hFr : mFr am a1 a2 a3 hm0 hm) (h : mwithin_61 n F w x2 x3 x4 x5 s = some x) (hL61 : ∀ s : Int32, x = (.inl s) → ∀ hm', mW cB cI am a1 a2 a3 F G tp w oc hm' → mFr am a1 a2 a3 hm0 hm' → zV s0 D (zty cB cI cJ cD) yX12_within cX12_within 13 (some .long) 2 46 0 0 61 [(0, .ref am), (2, .int x2), (3, .int x3), (4, .int x4), (5, .int x5), (6, .int s)] [] hi hm' nx Q) (hQ : ∀ r : Int64 × (Nat → Int32), x = (.inr r) → ∀ hm', mW cB cI am a1 a2 a3 r.2 G tp w oc hm' → mFr am a1 a2 a3 hm0 hm' → Q (some (.long r.1)) hi hm' nx) : zV s0 D (zty cB cI cJ cD) yX12_within cX12_within 13 (some .long) 2 46 0 0 61 [(0, .ref am), (2, .int x2), (3, .int x3), (4, .int x4), (5, .int x5), (6, .int s)] [] hi hm nx Q := by
  unfold mwithin_61 at h
  refine zV_blk (pc' := 66) (lo' := [(0, .ref am), (2, .int x2), (3, .int x3), (4, .int x4), (5, .int x5), (6, .int s)]) (st' := [.int 1000, .int s]) [.iload 6, .sipush 1000] (by decide +kernel) rfl ?_
  refine zV_icmp_gt (tgt := 220) (off := 154) (by decide +kernel) (by decide) (fun q => ?_) (fun q => ?_)
  · replace h := zif_pos q h
    clear q
    refine zV_ldc2 (idx := 40) (v := (-1000000000000000)) (zT_mem 1728 (by decide +kernel) rfl) (by decide +kernel) ?_
    obtain rfl := Option.some.inj h
    exact zV_lret rfl (by decide +kernel) (hQ _ rfl hm hW hFr)
  · replace h := zif_neg q h
    clear q
    refine zV_blk (pc' := 78) (lo' := [(10, .int 0), (8, .long 0), (7, .int 0), (0, .ref am), (2, .int x2), (3, .int x3), (4, .int x4), (5, .int x5), (6, .int s)]) (st' := []) [.iconst 0, .istore 7, .lconst 0, .lstore 8, .iconst 0, .istore 10] (by decide +kernel) rfl ?_
    refine zV_pick (lo2 := [(0, .ref am), (2, .int x2), (3, .int x3), (4, .int x4), (5, .int x5), (6, .int s), (7, .int 0), (8, .long 0), (10, .int 0)]) [3, 4, 5, 6, 7, 8, 2, 1, 0] rfl ?_
    exact cmwithin_78L s0 D cB cI cJ cD am a1 a2 a3 F G tp w oc n x2 x3 x4 x5 s n (0, 0, 0) hW hFr h hL61 hQ
theorem cmwithin_61L (s0 : State) (D : va_G) (cB cI cJ cD : ClassId) (am a1 a2 a3 : Nat) (F : Nat → Int32) (G : Nat → Int64) (tp : Nat → Int32) (w : Nat → Int32) (oc : Nat → Int32) (n : Nat) (x2 : Int32) (x3 : Int32) (x4 : Int32) (x5 : Int32) : ∀ (k : Nat) (s : Int32) {hi hm : zHp} {nx : Nat} {Q : Option Value → zHp → zHp → Nat → Prop} {hm0 : zHp} (_ : mW cB cI am a1 a2 a3 F G tp w oc hm) (_ : mFr am a1 a2 a3 hm0 hm) {x : Int64 × (Nat → Int32)} (_ : zloop (mwithin_61 n F w x2 x3 x4 x5) k s = some x) (hQ : ∀ r : Int64 × (Nat → Int32), x = r → ∀ hm', mW cB cI am a1 a2 a3 r.2 G tp w oc hm' → mFr am a1 a2 a3 hm0 hm' → Q (some (.long r.1)) hi hm' nx), zV s0 D (zty cB cI cJ cD) yX12_within cX12_within 13 (some .long) 2 46 0 0 61 [(0, .ref am), (2, .int x2), (3, .int x3), (4, .int x4), (5, .int x5), (6, .int s)] [] hi hm nx Q
  | 0, s, _, _, _, _, _, hW, hFr, _, h, _ => by cases h
  | k + 1, s, hi, hm, nx, Q, hm0, hW, hFr, x, h, hQ => by
    obtain ⟨z, hz, h1, h2⟩ := zloop_succ h
    exact cmwithin_61 s0 D cB cI cJ cD am a1 a2 a3 F G tp w oc n x2 x3 x4 x5 s z hW hFr hz (fun s' hs hm' hW' hFr' => cmwithin_61L s0 D cB cI cJ cD am a1 a2 a3 F G tp w oc n x2 x3 x4 x5 k s' hW' hFr' (h1 s' hs) hQ) (fun r hr hm' hW' hFr' => hQ r (h2 _ hr).symm hm' hW' hFr')
def mwithin (n : Nat) (F : Nat → Int32) (w : Nat → Int32) (x1 : Int32) (x2 : Int32) (x3 : Int32) (x4 : Int32) : Option (Int64 × (Nat → Int32)) := (misThere w x1).bind (fun v1 => (if v1 = true then (misIn (x2 : Int32).toInt64 1 100000).bind (fun v2 => (if v2 = true then (misIn (x3 : Int32).toInt64 1 9999).bind (fun v3 => (if v3 = true then (misIn (x4 : Int32).toInt64 0 1).bind (fun v4 => (if v4 = true then (mbank x1).bind (fun v5 => (zloop (mwithin_61 n (upd F 0 0) w x2 x3 x4 v5) n 1)) else some ((-1000000000000000), (upd F 0 0)))) else some ((-1000000000000000), (upd F 0 0)))) else some ((-1000000000000000), (upd F 0 0)))) else some ((-1000000000000000), (upd F 0 0))))
theorem oX12_within : zO yX12_within cX12_within 13 (some .long) 4 := ⟨zT_mem 2057 (by decide +kernel) rfl, zT_mem 94 (by decide +kernel) rfl, by decide +kernel, by decide +kernel, by decide +kernel⟩
set_option maxHeartbeats 4000000 in
set_option maxRecDepth 100000 in
theorem cmwithin (s0 : State) (D : va_G) (cB cI cJ cD : ClassId) (am a1 a2 a3 : Nat) (F : Nat → Int32) (G : Nat → Int64) (tp w oc : Nat → Int32) (n : Nat) (x1 : Int32) (x2 : Int32) (x3 : Int32) (x4 : Int32) (x : Int64 × (Nat → Int32)) (h : mwithin n F w x1 x2 x3 x4 = some x) : mC s0 D cB cI cJ cD am a1 a2 a3 yX12_within cX12_within 13 (some .long) 2 46 [.int x1, .int x2, .int x3, .int x4] F G tp w oc (some (.long x.1)) x.2 G tp w oc := by
  intro hi hm nx Q hW hQ0
  have hQ : ∀ r : Int64 × (Nat → Int32), x = r → ∀ hm', mW cB cI am a1 a2 a3 r.2 G tp w oc hm' → mFr am a1 a2 a3 hm hm' → Q (some (.long r.1)) hi hm' nx := fun r hr => by subst hr; exact hQ0
  have hFr : mFr am a1 a2 a3 hm hm := mFr.rf
  clear hQ0
  refine zM_of (by decide +kernel) (Nat.le_of_ble_eq_true rfl) ?_
  unfold mwithin at h
  refine zV_eq (lo2 := [(0, .ref am), (1, .int x1), (2, .int x2), (3, .int x3), (4, .int x4)]) rfl rfl rfl rfl ?_
  refine zV_blk (pc' := 2) (lo' := [(0, .ref am), (1, .int x1), (2, .int x2), (3, .int x3), (4, .int x4)]) (st' := [.int 0, .ref am]) [.aload_n 0, .iconst 0] (by decide +kernel) rfl ?_
  refine m_put (idx := 25) (k := 0) (v := .int 0) (F' := (upd F 0 0)) (G' := G) hW m_in12 (by decide) (zT_mem 1440 (by decide +kernel) rfl) rfl rfl rfl rfl (by decide +kernel) (fun hm hW hFr2 => ?_)
  replace hFr := hFr.tr hFr2; clear hFr2
  refine zV_blk (pc' := 7) (lo' := [(0, .ref am), (1, .int x1), (2, .int x2), (3, .int x3), (4, .int x4)]) (st' := [.int x1, .ref am]) [.aload_n 0, .iload_n 1] (by decide +kernel) rfl ?_
  obtain ⟨v1, hv1, h⟩ := zbind h
  refine m_cR (idx := 273) (rest := []) hW (cmisThere s0 D cB cI cJ cD am a1 a2 a3 (upd F 0 0) G tp w oc x1 v1 hv1) oX12_isThere rfl (zT_mem 1686 (by decide +kernel) rfl) (zT_mem 1688 (by decide +kernel) rfl) (zT_mem 49 (by decide +kernel) rfl) rfl rfl (Nat.le_of_ble_eq_true rfl) ⟨by decide, by decide⟩ (by decide +kernel) ?_
  refine zV_eq (st2 := [.int (zb v1)]) rfl rfl rfl rfl ?_
  refine zV_bif_eq (tgt := 48) (off := 38) (by decide +kernel) (by decide) (fun q => ?_) (fun q => ?_)
  · replace h := zif_neg q h
    clear q
    refine zV_ldc2 (idx := 40) (v := (-1000000000000000)) (zT_mem 1728 (by decide +kernel) rfl) (by decide +kernel) ?_
    obtain rfl := Option.some.inj h
    exact zV_lret rfl (by decide +kernel) (hQ _ rfl hm hW hFr)
  · replace h := zif_pos q h
    clear q
    refine zV_blk (pc' := 16) (lo' := [(0, .ref am), (1, .int x1), (2, .int x2), (3, .int x3), (4, .int x4)]) (st' := [.long 1, .long (x2 : Int32).toInt64]) [.iload_n 2, .i2l, .lconst 1] (by decide +kernel) rfl ?_
    refine zV_ldc2 (idx := 242) (v := 100000) (zT_mem 1821 (by decide +kernel) rfl) (by decide +kernel) ?_
    obtain ⟨v2, hv2, h⟩ := zbind h
    refine zV_sC (idx := 36) (rest := []) (cmisIn s0 D cB cI cJ cD (x2 : Int32).toInt64 1 100000 v2 hv2) oX12_isIn (zT_mem 1531 (by decide +kernel) rfl) (zT_mem 1532 (by decide +kernel) rfl) rfl rfl (Nat.le_of_ble_eq_true rfl) ⟨by decide, by decide⟩ (by decide +kernel) ?_
    refine zV_eq (st2 := [.int (zb v2)]) rfl rfl rfl rfl ?_
    refine zV_bif_eq (tgt := 48) (off := 26) (by decide +kernel) (by decide) (fun q => ?_) (fun q => ?_)
    · replace h := zif_neg q h
      clear q
      refine zV_ldc2 (idx := 40) (v := (-1000000000000000)) (zT_mem 1728 (by decide +kernel) rfl) (by decide +kernel) ?_
      obtain rfl := Option.some.inj h
      exact zV_lret rfl (by decide +kernel) (hQ _ rfl hm hW hFr)
    · replace h := zif_pos q h
      clear q
      refine zV_blk (pc' := 28) (lo' := [(0, .ref am), (1, .int x1), (2, .int x2), (3, .int x3), (4, .int x4)]) (st' := [.long 1, .long (x3 : Int32).toInt64]) [.iload_n 3, .i2l, .lconst 1] (by decide +kernel) rfl ?_
      refine zV_ldc2 (idx := 361) (v := 9999) (zT_mem 1917 (by decide +kernel) rfl) (by decide +kernel) ?_
      obtain ⟨v3, hv3, h⟩ := zbind h
      refine zV_sC (idx := 36) (rest := []) (cmisIn s0 D cB cI cJ cD (x3 : Int32).toInt64 1 9999 v3 hv3) oX12_isIn (zT_mem 1531 (by decide +kernel) rfl) (zT_mem 1532 (by decide +kernel) rfl) rfl rfl (Nat.le_of_ble_eq_true rfl) ⟨by decide, by decide⟩ (by decide +kernel) ?_
      refine zV_eq (st2 := [.int (zb v3)]) rfl rfl rfl rfl ?_
      refine zV_bif_eq (tgt := 48) (off := 14) (by decide +kernel) (by decide) (fun q => ?_) (fun q => ?_)
      · replace h := zif_neg q h
        clear q
        refine zV_ldc2 (idx := 40) (v := (-1000000000000000)) (zT_mem 1728 (by decide +kernel) rfl) (by decide +kernel) ?_
        obtain rfl := Option.some.inj h
        exact zV_lret rfl (by decide +kernel) (hQ _ rfl hm hW hFr)
      · replace h := zif_pos q h
        clear q
        refine zV_blk (pc' := 42) (lo' := [(0, .ref am), (1, .int x1), (2, .int x2), (3, .int x3), (4, .int x4)]) (st' := [.long 1, .long 0, .long (x4 : Int32).toInt64]) [.iload 4, .i2l, .lconst 0, .lconst 1] (by decide +kernel) rfl ?_
        obtain ⟨v4, hv4, h⟩ := zbind h
        refine zV_sC (idx := 36) (rest := []) (cmisIn s0 D cB cI cJ cD (x4 : Int32).toInt64 0 1 v4 hv4) oX12_isIn (zT_mem 1531 (by decide +kernel) rfl) (zT_mem 1532 (by decide +kernel) rfl) rfl rfl (Nat.le_of_ble_eq_true rfl) ⟨by decide, by decide⟩ (by decide +kernel) ?_
        refine zV_eq (st2 := [.int (zb v4)]) rfl rfl rfl rfl ?_
        refine zV_bif_ne (tgt := 52) (off := 7) (by decide +kernel) (by decide) (fun q => ?_) (fun q => ?_)
        · replace h := zif_pos q h
          clear q
          refine zV_blk (pc' := 53) (lo' := [(0, .ref am), (1, .int x1), (2, .int x2), (3, .int x3), (4, .int x4)]) (st' := [.int x1]) [.iload_n 1] (by decide +kernel) rfl ?_
          obtain ⟨v5, hv5, h⟩ := zbind h
          refine zV_sC (idx := 118) (rest := []) (cmbank s0 D cB cI cJ cD x1 v5 hv5) oX12_bank (zT_mem 1671 (by decide +kernel) rfl) (zT_mem 1672 (by decide +kernel) rfl) rfl rfl (Nat.le_of_ble_eq_true rfl) ⟨by decide, by decide⟩ (by decide +kernel) ?_
          refine zV_eq (st2 := [.int v5]) rfl rfl rfl rfl ?_
          refine zV_blk (pc' := 61) (lo' := [(6, .int 1), (5, .int v5), (0, .ref am), (1, .int x1), (2, .int x2), (3, .int x3), (4, .int x4)]) (st' := []) [.istore 5, .iconst 1, .istore 6] (by decide +kernel) rfl ?_
          refine zV_pick (lo2 := [(0, .ref am), (2, .int x2), (3, .int x3), (4, .int x4), (5, .int v5), (6, .int 1)]) [2, 4, 5, 6, 1, 0] rfl ?_
          exact cmwithin_61L s0 D cB cI cJ cD am a1 a2 a3 (upd F 0 0) G tp w oc n x2 x3 x4 v5 n 1 hW hFr h hQ
        · replace h := zif_neg q h
          clear q
          refine zV_ldc2 (idx := 40) (v := (-1000000000000000)) (zT_mem 1728 (by decide +kernel) rfl) (by decide +kernel) ?_
          obtain rfl := Option.some.inj h
          exact zV_lret rfl (by decide +kernel) (hQ _ rfl hm hW hFr)

