def misAllRead_113 (n : Nat) (F : Nat → Int32) (s : Int32 × (Nat → Int32)) : Option ((Int32 × (Nat → Int32)) ⊕ ((Nat → Int32) × (Nat → Int32))) := zck (zin (2660) 35802) ((if ((s.2 (2660 : Int32).toNatClampNeg) : Int32) < (s.1 : Int32) then some (.inr (F, s.2)) else zck (zin (2655) 35802) ((if ((s.2 (2655 : Int32).toNatClampNeg) : Int32) = (3 : Int32) then zck (zin ((2692 + s.1)) 35802) (zck (zin (((2692 + s.1) - 1)) 35802) (zck (zin ((2692 + s.1)) 35802) (some (.inl ((s.1 + 1), (upd s.2 ((2692 + s.1) : Int32).toNatClampNeg ((s.2 ((2692 + s.1) : Int32).toNatClampNeg) + (s.2 (((2692 + s.1) - 1) : Int32).toNatClampNeg)))))))) else some (.inr (F, s.2))))))
set_option maxHeartbeats 4000000 in
set_option maxRecDepth 100000 in
theorem cmisAllRead_113 (s0 : State) (D : va_G) (cB cI cJ cD : ClassId) (am a1 a2 a3 : Nat) (F : Nat → Int32) (G : Nat → Int64) (tp : Nat → Int32) (oc : Nat → Int32) (n : Nat) (s : Int32 × (Nat → Int32)) (x : (Int32 × (Nat → Int32)) ⊕ ((Nat → Int32) × (Nat → Int32))) {hi hm : zHp} {nx : Nat} {Q : Option Value → zHp → zHp → Nat → Prop} {hm0 : zHp} (hW : mW cB cI am a1 a2 a3 F G tp s.2 oc hm) (hFr : mFr am a1 a2 a3 hm0 hm) (h : misAllRead_113 n F s = some x) (hL113 : ∀ s : Int32 × (Nat → Int32), x = (.inl s) → ∀ hm', mW cB cI am a1 a2 a3 F G tp s.2 oc hm' → mFr am a1 a2 a3 hm0 hm' → zV s0 D (zty cB cI cJ cD) yX12_isAllRead cX12_isAllRead 3 none 1 22 0 0 113 [(0, .ref am), (2, .int s.1)] [] hi hm' nx Q) (hQ : ∀ r : (Nat → Int32) × (Nat → Int32), x = (.inr r) → ∀ hm', mW cB cI am a1 a2 a3 r.1 G tp r.2 oc hm' → mFr am a1 a2 a3 hm0 hm' → Q none hi hm' nx) : zV s0 D (zty cB cI cJ cD) yX12_isAllRead cX12_isAllRead 3 none 1 22 0 0 113 [(0, .ref am), (2, .int s.1)] [] hi hm nx Q := by
  unfold misAllRead_113 at h
  refine zV_blk (pc' := 115) (lo' := [(0, .ref am), (2, .int s.1)]) (st' := [.ref am, .int s.1]) [.iload_n 2, .aload_n 0] (by decide +kernel) rfl ?_
  refine m_get (idx := 18) (k := 12) (v := .ref a2) hW m_in12 (by decide) (zT_mem 1452 (by decide +kernel) rfl) rfl (by decide +kernel) ?_
  refine zV_blk (pc' := 121) (lo' := [(0, .ref am), (2, .int s.1)]) (st' := [.int 2660, .ref a2, .int s.1]) [.sipush 2660] (by decide +kernel) rfl ?_
  obtain ⟨hz, h⟩ := zck_some h
  refine m_wld hW hz (by decide +kernel) ?_
  refine zV_icmp_gt (tgt := 168) (off := 46) (by decide +kernel) (by decide) (fun q => ?_) (fun q => ?_)
  · replace h := zif_pos q h
    clear q
    obtain rfl := Option.some.inj h
    exact zV_vret rfl (by decide +kernel) (hQ _ rfl hm hW hFr)
  · replace h := zif_neg q h
    clear q
    refine zV_blk (pc' := 126) (lo' := [(0, .ref am), (2, .int s.1)]) (st' := [.ref am]) [.aload_n 0] (by decide +kernel) rfl ?_
    refine m_get (idx := 18) (k := 12) (v := .ref a2) hW m_in12 (by decide) (zT_mem 1452 (by decide +kernel) rfl) rfl (by decide +kernel) ?_
    refine zV_blk (pc' := 132) (lo' := [(0, .ref am), (2, .int s.1)]) (st' := [.int 2655, .ref a2]) [.sipush 2655] (by decide +kernel) rfl ?_
    obtain ⟨hz, h⟩ := zck_some h
    refine m_wld hW hz (by decide +kernel) ?_
    refine zV_blk (pc' := 134) (lo' := [(0, .ref am), (2, .int s.1)]) (st' := [.int 3, .int (s.2 (2655 : Int32).toNatClampNeg)]) [.iconst 3] (by decide +kernel) rfl ?_
    refine zV_icmp_ne (tgt := 168) (off := 34) (by decide +kernel) (by decide) (fun q => ?_) (fun q => ?_)
    · replace h := zif_neg q h
      clear q
      obtain rfl := Option.some.inj h
      exact zV_vret rfl (by decide +kernel) (hQ _ rfl hm hW hFr)
    · replace h := zif_pos q h
      clear q
      refine zV_blk (pc' := 138) (lo' := [(0, .ref am), (2, .int s.1)]) (st' := [.ref am]) [.aload_n 0] (by decide +kernel) rfl ?_
      refine m_get (idx := 18) (k := 12) (v := .ref a2) hW m_in12 (by decide) (zT_mem 1452 (by decide +kernel) rfl) rfl (by decide +kernel) ?_
      refine zV_blk (pc' := 147) (lo' := [(0, .ref am), (2, .int s.1)]) (st' := [.int (2692 + s.1), .ref a2, .int (2692 + s.1), .ref a2]) [.sipush 2692, .iload_n 2, .iadd, .dup2] (by decide +kernel) rfl ?_
      obtain ⟨hz, h⟩ := zck_some h
      refine m_wld hW hz (by decide +kernel) ?_
      refine zV_blk (pc' := 149) (lo' := [(0, .ref am), (2, .int s.1)]) (st' := [.ref am, .int (s.2 ((2692 + s.1) : Int32).toNatClampNeg), .int (2692 + s.1), .ref a2]) [.aload_n 0] (by decide +kernel) rfl ?_
      refine m_get (idx := 18) (k := 12) (v := .ref a2) hW m_in12 (by decide) (zT_mem 1452 (by decide +kernel) rfl) rfl (by decide +kernel) ?_
      refine zV_blk (pc' := 159) (lo' := [(0, .ref am), (2, .int s.1)]) (st' := [.int ((2692 + s.1) - 1), .ref a2, .int (s.2 ((2692 + s.1) : Int32).toNatClampNeg), .int (2692 + s.1), .ref a2]) [.sipush 2692, .iload_n 2, .iadd, .iconst 1, .isub] (by decide +kernel) rfl ?_
      obtain ⟨hz, h⟩ := zck_some h
      refine m_wld hW hz (by decide +kernel) ?_
      refine zV_blk (pc' := 161) (lo' := [(0, .ref am), (2, .int s.1)]) (st' := [.int ((s.2 ((2692 + s.1) : Int32).toNatClampNeg) + (s.2 (((2692 + s.1) - 1) : Int32).toNatClampNeg)), .int (2692 + s.1), .ref a2]) [.iadd] (by decide +kernel) rfl ?_
      obtain ⟨hz, h⟩ := zck_some h
      refine m_wst hW hz (by decide +kernel) (fun hm hW hFr2 => ?_)
      replace hFr := hFr.tr hFr2; clear hFr2
      refine zV_blk (pc' := 165) (lo' := [(2, .int (s.1 + 1)), (0, .ref am)]) (st' := []) [.iinc 2 1] (by decide +kernel) rfl ?_
      refine zV_goto (tgt := 113) (off := -52) (by decide +kernel) (by decide) ?_
      obtain rfl := Option.some.inj h
      refine zV_pick (lo2 := [(0, .ref am), (2, .int (s.1 + 1))]) [1, 0] rfl ?_
      exact hL113 _ rfl hm hW hFr
theorem cmisAllRead_113L (s0 : State) (D : va_G) (cB cI cJ cD : ClassId) (am a1 a2 a3 : Nat) (F : Nat → Int32) (G : Nat → Int64) (tp : Nat → Int32) (oc : Nat → Int32) (n : Nat) : ∀ (k : Nat) (s : Int32 × (Nat → Int32)) {hi hm : zHp} {nx : Nat} {Q : Option Value → zHp → zHp → Nat → Prop} {hm0 : zHp} (_ : mW cB cI am a1 a2 a3 F G tp s.2 oc hm) (_ : mFr am a1 a2 a3 hm0 hm) {x : (Nat → Int32) × (Nat → Int32)} (_ : zloop (misAllRead_113 n F) k s = some x) (hQ : ∀ r : (Nat → Int32) × (Nat → Int32), x = r → ∀ hm', mW cB cI am a1 a2 a3 r.1 G tp r.2 oc hm' → mFr am a1 a2 a3 hm0 hm' → Q none hi hm' nx), zV s0 D (zty cB cI cJ cD) yX12_isAllRead cX12_isAllRead 3 none 1 22 0 0 113 [(0, .ref am), (2, .int s.1)] [] hi hm nx Q
  | 0, s, _, _, _, _, _, hW, hFr, _, h, _ => by cases h
  | k + 1, s, hi, hm, nx, Q, hm0, hW, hFr, x, h, hQ => by
    obtain ⟨z, hz, h1, h2⟩ := zloop_succ h
    exact cmisAllRead_113 s0 D cB cI cJ cD am a1 a2 a3 F G tp oc n  s z hW hFr hz (fun s' hs hm' hW' hFr' => cmisAllRead_113L s0 D cB cI cJ cD am a1 a2 a3 F G tp oc n  k s' hW' hFr' (h1 s' hs) hQ) (fun r hr hm' hW' hFr' => hQ r (h2 _ hr).symm hm' hW' hFr')
def misAllRead_111 (n : Nat) (F : Nat → Int32) (w : Nat → Int32) : Option ((Nat → Int32) × (Nat → Int32)) := (zloop (misAllRead_113 n F) n (1, w))
set_option maxHeartbeats 4000000 in
set_option maxRecDepth 100000 in
theorem cmisAllRead_111 (s0 : State) (D : va_G) (cB cI cJ cD : ClassId) (am a1 a2 a3 : Nat) (F : Nat → Int32) (G : Nat → Int64) (tp w oc : Nat → Int32) (n : Nat) {hi hm : zHp} {nx : Nat} {Q : Option Value → zHp → zHp → Nat → Prop} {hm0 : zHp} {x : (Nat → Int32) × (Nat → Int32)} (hW : mW cB cI am a1 a2 a3 F G tp w oc hm) (hFr : mFr am a1 a2 a3 hm0 hm) (h : misAllRead_111 n F w = some x) (hQ : ∀ r : (Nat → Int32) × (Nat → Int32), x = r → ∀ hm', mW cB cI am a1 a2 a3 r.1 G tp r.2 oc hm' → mFr am a1 a2 a3 hm0 hm' → Q none hi hm' nx) : zV s0 D (zty cB cI cJ cD) yX12_isAllRead cX12_isAllRead 3 none 1 22 0 0 111 [(0, .ref am)] [] hi hm nx Q := by
  unfold misAllRead_111 at h
  refine zV_blk (pc' := 113) (lo' := [(2, .int 1), (0, .ref am)]) (st' := []) [.iconst 1, .istore_n 2] (by decide +kernel) rfl ?_
  refine zV_pick (lo2 := [(0, .ref am), (2, .int 1)]) [1, 0] rfl ?_
  exact cmisAllRead_113L s0 D cB cI cJ cD am a1 a2 a3 F G tp oc n  n (1, w) hW hFr h hQ
def misAllRead_67 (n : Nat) (F : Nat → Int32) (w : Nat → Int32) : Option ((Nat → Int32) × (Nat → Int32)) := (misFine F).bind (fun v1 => (if v1 = true then zck (zin (2656) 35802) ((if ((w (2656 : Int32).toNatClampNeg) : Int32) = (0 : Int32) then zck (zin (2656) 35802) (zck (zin (2653) 35802) (zck (zin (2676) 35802) ((misAllRead_111 n F (upd (upd w (2656 : Int32).toNatClampNeg 1) (2676 : Int32).toNatClampNeg ((upd w (2656 : Int32).toNatClampNeg 1) (2653 : Int32).toNatClampNeg)))))) else (misAllRead_111 n F w))) else some (F, w)))
set_option maxHeartbeats 4000000 in
set_option maxRecDepth 100000 in
theorem cmisAllRead_67 (s0 : State) (D : va_G) (cB cI cJ cD : ClassId) (am a1 a2 a3 : Nat) (F : Nat → Int32) (G : Nat → Int64) (tp w oc : Nat → Int32) (n : Nat) {hi hm : zHp} {nx : Nat} {Q : Option Value → zHp → zHp → Nat → Prop} {hm0 : zHp} {x : (Nat → Int32) × (Nat → Int32)} (hW : mW cB cI am a1 a2 a3 F G tp w oc hm) (hFr : mFr am a1 a2 a3 hm0 hm) (h : misAllRead_67 n F w = some x) (hQ : ∀ r : (Nat → Int32) × (Nat → Int32), x = r → ∀ hm', mW cB cI am a1 a2 a3 r.1 G tp r.2 oc hm' → mFr am a1 a2 a3 hm0 hm' → Q none hi hm' nx) : zV s0 D (zty cB cI cJ cD) yX12_isAllRead cX12_isAllRead 3 none 1 22 0 0 67 [(0, .ref am)] [] hi hm nx Q := by
  unfold misAllRead_67 at h
  refine zV_blk (pc' := 68) (lo' := [(0, .ref am)]) (st' := [.ref am]) [.aload_n 0] (by decide +kernel) rfl ?_
  obtain ⟨v1, hv1, h⟩ := zbind h
  refine m_cR (idx := 86) (rest := []) hW (cmisFine s0 D cB cI cJ cD am a1 a2 a3 F G tp w oc  v1 hv1) oX12_isFine rfl (zT_mem 1547 (by decide +kernel) rfl) (zT_mem 1549 (by decide +kernel) rfl) (zT_mem 23 (by decide +kernel) rfl) rfl rfl (Nat.le_of_ble_eq_true rfl) ⟨by decide, by decide⟩ (by decide +kernel) ?_
  refine zV_eq (st2 := [.int (zb v1)]) rfl rfl rfl rfl ?_
  refine zV_bif_ne (tgt := 75) (off := 4) (by decide +kernel) (by decide) (fun q => ?_) (fun q => ?_)
  · replace h := zif_pos q h
    clear q
    refine zV_blk (pc' := 76) (lo' := [(0, .ref am)]) (st' := [.ref am]) [.aload_n 0] (by decide +kernel) rfl ?_
    refine m_get (idx := 18) (k := 12) (v := .ref a2) hW m_in12 (by decide) (zT_mem 1452 (by decide +kernel) rfl) rfl (by decide +kernel) ?_
    refine zV_blk (pc' := 82) (lo' := [(0, .ref am)]) (st' := [.int 2656, .ref a2]) [.sipush 2656] (by decide +kernel) rfl ?_
    obtain ⟨hz, h⟩ := zck_some h
    refine m_wld hW hz (by decide +kernel) ?_
    refine zV_if_ne (tgt := 111) (off := 28) (by decide +kernel) (by decide) (fun q => ?_) (fun q => ?_)
    · replace h := zif_neg q h
      clear q
      refine zV_pick (lo2 := [(0, .ref am)]) [0] rfl ?_
      exact cmisAllRead_111 s0 D cB cI cJ cD am a1 a2 a3 F G tp w oc n  hW hFr h hQ
    · replace h := zif_pos q h
      clear q
      refine zV_blk (pc' := 87) (lo' := [(0, .ref am)]) (st' := [.ref am]) [.aload_n 0] (by decide +kernel) rfl ?_
      refine m_get (idx := 18) (k := 12) (v := .ref a2) hW m_in12 (by decide) (zT_mem 1452 (by decide +kernel) rfl) rfl (by decide +kernel) ?_
      refine zV_blk (pc' := 94) (lo' := [(0, .ref am)]) (st' := [.int 1, .int 2656, .ref a2]) [.sipush 2656, .iconst 1] (by decide +kernel) rfl ?_
      obtain ⟨hz, h⟩ := zck_some h
      refine m_wst hW hz (by decide +kernel) (fun hm hW hFr2 => ?_)
      replace hFr := hFr.tr hFr2; clear hFr2
      refine zV_blk (pc' := 96) (lo' := [(0, .ref am)]) (st' := [.ref am]) [.aload_n 0] (by decide +kernel) rfl ?_
      refine m_get (idx := 18) (k := 12) (v := .ref a2) hW m_in12 (by decide) (zT_mem 1452 (by decide +kernel) rfl) rfl (by decide +kernel) ?_
      refine zV_blk (pc' := 103) (lo' := [(0, .ref am)]) (st' := [.ref am, .int 2676, .ref a2]) [.sipush 2676, .aload_n 0] (by decide +kernel) rfl ?_
      refine m_get (idx := 18) (k := 12) (v := .ref a2) hW m_in12 (by decide) (zT_mem 1452 (by decide +kernel) rfl) rfl (by decide +kernel) ?_
      refine zV_blk (pc' := 109) (lo' := [(0, .ref am)]) (st' := [.int 2653, .ref a2, .int 2676, .ref a2]) [.sipush 2653] (by decide +kernel) rfl ?_
      obtain ⟨hz, h⟩ := zck_some h
      refine m_wld hW hz (by decide +kernel) ?_
      obtain ⟨hz, h⟩ := zck_some h
      refine m_wst hW hz (by decide +kernel) (fun hm hW hFr2 => ?_)
      replace hFr := hFr.tr hFr2; clear hFr2
      refine zV_pick (lo2 := [(0, .ref am)]) [0] rfl ?_
      exact cmisAllRead_111 s0 D cB cI cJ cD am a1 a2 a3 F G tp (upd (upd w (2656 : Int32).toNatClampNeg 1) (2676 : Int32).toNatClampNeg ((upd w (2656 : Int32).toNatClampNeg 1) (2653 : Int32).toNatClampNeg)) oc n  hW hFr h hQ
  · replace h := zif_neg q h
    clear q
    obtain rfl := Option.some.inj h
    exact zV_vret rfl (by decide +kernel) (hQ _ rfl hm hW hFr)
def misAllRead_4 (n : Nat) (F : Nat → Int32) (w : Nat → Int32) (s : Int32 × Int32) : Option ((Int32 × Int32) ⊕ ((Nat → Int32) × (Nat → Int32))) := zck (zin (2656) 35802) ((if ((w (2656 : Int32).toNatClampNeg) : Int32) ≤ (s.2 : Int32) then zck (zin (2656) 35802) ((if ((w (2656 : Int32).toNatClampNeg) : Int32) ≤ (0 : Int32) then ((misAllRead_67 n F w).map (fun z => .inr z)) else zck (zin (2653) 35802) ((if (s.1 : Int32) = ((w (2653 : Int32).toNatClampNeg) : Int32) then ((misAllRead_67 n F w).map (fun z => .inr z)) else (mfail F 5 (F 3)).bind (fun v3 => ((misAllRead_67 n v3 w).map (fun z => .inr z))))))) else zck (zin ((2676 + s.2)) 35802) (some (.inl ((s.1 + (w ((2676 + s.2) : Int32).toNatClampNeg)), (s.2 + 1))))))
set_option maxHeartbeats 4000000 in
set_option maxRecDepth 100000 in
theorem cmisAllRead_4 (s0 : State) (D : va_G) (cB cI cJ cD : ClassId) (am a1 a2 a3 : Nat) (F : Nat → Int32) (G : Nat → Int64) (tp : Nat → Int32) (w : Nat → Int32) (oc : Nat → Int32) (n : Nat) (s : Int32 × Int32) (x : (Int32 × Int32) ⊕ ((Nat → Int32) × (Nat → Int32))) {hi hm : zHp} {nx : Nat} {Q : Option Value → zHp → zHp → Nat → Prop} {hm0 : zHp} (hW : mW cB cI am a1 a2 a3 F G tp w oc hm) (hFr : mFr am a1 a2 a3 hm0 hm) (h : misAllRead_4 n F w s = some x) (hL4 : ∀ s : Int32 × Int32, x = (.inl s) → ∀ hm', mW cB cI am a1 a2 a3 F G tp w oc hm' → mFr am a1 a2 a3 hm0 hm' → zV s0 D (zty cB cI cJ cD) yX12_isAllRead cX12_isAllRead 3 none 1 22 0 0 4 [(0, .ref am), (1, .int s.1), (2, .int s.2)] [] hi hm' nx Q) (hQ : ∀ r : (Nat → Int32) × (Nat → Int32), x = (.inr r) → ∀ hm', mW cB cI am a1 a2 a3 r.1 G tp r.2 oc hm' → mFr am a1 a2 a3 hm0 hm' → Q none hi hm' nx) : zV s0 D (zty cB cI cJ cD) yX12_isAllRead cX12_isAllRead 3 none 1 22 0 0 4 [(0, .ref am), (1, .int s.1), (2, .int s.2)] [] hi hm nx Q := by
  unfold misAllRead_4 at h
  refine zV_blk (pc' := 6) (lo' := [(0, .ref am), (1, .int s.1), (2, .int s.2)]) (st' := [.ref am, .int s.2]) [.iload_n 2, .aload_n 0] (by decide +kernel) rfl ?_
  refine m_get (idx := 18) (k := 12) (v := .ref a2) hW m_in12 (by decide) (zT_mem 1452 (by decide +kernel) rfl) rfl (by decide +kernel) ?_
  refine zV_blk (pc' := 12) (lo' := [(0, .ref am), (1, .int s.1), (2, .int s.2)]) (st' := [.int 2656, .ref a2, .int s.2]) [.sipush 2656] (by decide +kernel) rfl ?_
  obtain ⟨hz, h⟩ := zck_some h
  refine m_wld hW hz (by decide +kernel) ?_
  refine zV_icmp_ge (tgt := 35) (off := 22) (by decide +kernel) (by decide) (fun q => ?_) (fun q => ?_)
  · replace h := zif_pos q h
    clear q
    refine zV_blk (pc' := 36) (lo' := [(0, .ref am), (1, .int s.1), (2, .int s.2)]) (st' := [.ref am]) [.aload_n 0] (by decide +kernel) rfl ?_
    refine m_get (idx := 18) (k := 12) (v := .ref a2) hW m_in12 (by decide) (zT_mem 1452 (by decide +kernel) rfl) rfl (by decide +kernel) ?_
    refine zV_blk (pc' := 42) (lo' := [(0, .ref am), (1, .int s.1), (2, .int s.2)]) (st' := [.int 2656, .ref a2]) [.sipush 2656] (by decide +kernel) rfl ?_
    obtain ⟨hz, h⟩ := zck_some h
    refine m_wld hW hz (by decide +kernel) ?_
    refine zV_if_le (tgt := 67) (off := 24) (by decide +kernel) (by decide) (fun q => ?_) (fun q => ?_)
    · replace h := zif_pos q h
      clear q
      obtain ⟨z1, h9, hx⟩ := zmap h
      clear h; subst hx; have h := h9; clear h9
      refine zV_pick (lo2 := [(0, .ref am)]) [0] rfl ?_
      exact cmisAllRead_67 s0 D cB cI cJ cD am a1 a2 a3 F G tp w oc n  hW hFr h (fun r hr => hQ r (by rw [hr]))
    · replace h := zif_neg q h
      clear q
      refine zV_blk (pc' := 48) (lo' := [(0, .ref am), (1, .int s.1), (2, .int s.2)]) (st' := [.ref am, .int s.1]) [.iload_n 1, .aload_n 0] (by decide +kernel) rfl ?_
      refine m_get (idx := 18) (k := 12) (v := .ref a2) hW m_in12 (by decide) (zT_mem 1452 (by decide +kernel) rfl) rfl (by decide +kernel) ?_
      refine zV_blk (pc' := 54) (lo' := [(0, .ref am), (1, .int s.1), (2, .int s.2)]) (st' := [.int 2653, .ref a2, .int s.1]) [.sipush 2653] (by decide +kernel) rfl ?_
      obtain ⟨hz, h⟩ := zck_some h
      refine m_wld hW hz (by decide +kernel) ?_
      refine zV_icmp_eq (tgt := 67) (off := 12) (by decide +kernel) (by decide) (fun q => ?_) (fun q => ?_)
      · replace h := zif_pos q h
        clear q
        obtain ⟨z2, h9, hx⟩ := zmap h
        clear h; subst hx; have h := h9; clear h9
        refine zV_pick (lo2 := [(0, .ref am)]) [0] rfl ?_
        exact cmisAllRead_67 s0 D cB cI cJ cD am a1 a2 a3 F G tp w oc n  hW hFr h (fun r hr => hQ r (by rw [hr]))
      · replace h := zif_neg q h
        clear q
        refine zV_blk (pc' := 61) (lo' := [(0, .ref am), (1, .int s.1), (2, .int s.2)]) (st' := [.ref am, .int 5, .ref am]) [.aload_n 0, .iconst 5, .aload_n 0] (by decide +kernel) rfl ?_
        refine m_get (idx := 52) (k := 3) (v := .int (F 3)) hW m_in12 (by decide) (zT_mem 1443 (by decide +kernel) rfl) rfl (by decide +kernel) ?_
        obtain ⟨v3, hv3, h⟩ := zbind h
        refine m_cC (idx := 79) (rest := []) hW (cmfail s0 D cB cI cJ cD am a1 a2 a3 F G tp w oc 5 (F 3) v3 hv3) oX12_fail rfl (zT_mem 1581 (by decide +kernel) rfl) (zT_mem 1583 (by decide +kernel) rfl) (zT_mem 30 (by decide +kernel) rfl) rfl rfl (Nat.le_of_ble_eq_true rfl) ⟨by decide, by decide⟩ (by decide +kernel) (fun hm hW hFr2 => ?_)
        replace hFr := hFr.tr hFr2; clear hFr2
        refine zV_eq (st2 := []) rfl rfl rfl rfl ?_
        obtain ⟨z4, h9, hx⟩ := zmap h
        clear h; subst hx; have h := h9; clear h9
        refine zV_pick (lo2 := [(0, .ref am)]) [0] rfl ?_
        exact cmisAllRead_67 s0 D cB cI cJ cD am a1 a2 a3 v3 G tp w oc n  hW hFr h (fun r hr => hQ r (by rw [hr]))
  · replace h := zif_neg q h
    clear q
    refine zV_blk (pc' := 18) (lo' := [(0, .ref am), (1, .int s.1), (2, .int s.2)]) (st' := [.ref am, .int s.1]) [.iload_n 1, .aload_n 0] (by decide +kernel) rfl ?_
    refine m_get (idx := 18) (k := 12) (v := .ref a2) hW m_in12 (by decide) (zT_mem 1452 (by decide +kernel) rfl) rfl (by decide +kernel) ?_
    refine zV_blk (pc' := 26) (lo' := [(0, .ref am), (1, .int s.1), (2, .int s.2)]) (st' := [.int (2676 + s.2), .ref a2, .int s.1]) [.sipush 2676, .iload_n 2, .iadd] (by decide +kernel) rfl ?_
    obtain ⟨hz, h⟩ := zck_some h
    refine m_wld hW hz (by decide +kernel) ?_
    refine zV_blk (pc' := 32) (lo' := [(2, .int (s.2 + 1)), (1, .int (s.1 + (w ((2676 + s.2) : Int32).toNatClampNeg))), (0, .ref am)]) (st' := []) [.iadd, .istore_n 1, .iinc 2 1] (by decide +kernel) rfl ?_
    refine zV_goto (tgt := 4) (off := -28) (by decide +kernel) (by decide) ?_
    obtain rfl := Option.some.inj h
    refine zV_pick (lo2 := [(0, .ref am), (1, .int (s.1 + (w ((2676 + s.2) : Int32).toNatClampNeg))), (2, .int (s.2 + 1))]) [2, 1, 0] rfl ?_
    exact hL4 _ rfl hm hW hFr
theorem cmisAllRead_4L (s0 : State) (D : va_G) (cB cI cJ cD : ClassId) (am a1 a2 a3 : Nat) (F : Nat → Int32) (G : Nat → Int64) (tp : Nat → Int32) (w : Nat → Int32) (oc : Nat → Int32) (n : Nat) : ∀ (k : Nat) (s : Int32 × Int32) {hi hm : zHp} {nx : Nat} {Q : Option Value → zHp → zHp → Nat → Prop} {hm0 : zHp} (_ : mW cB cI am a1 a2 a3 F G tp w oc hm) (_ : mFr am a1 a2 a3 hm0 hm) {x : (Nat → Int32) × (Nat → Int32)} (_ : zloop (misAllRead_4 n F w) k s = some x) (hQ : ∀ r : (Nat → Int32) × (Nat → Int32), x = r → ∀ hm', mW cB cI am a1 a2 a3 r.1 G tp r.2 oc hm' → mFr am a1 a2 a3 hm0 hm' → Q none hi hm' nx), zV s0 D (zty cB cI cJ cD) yX12_isAllRead cX12_isAllRead 3 none 1 22 0 0 4 [(0, .ref am), (1, .int s.1), (2, .int s.2)] [] hi hm nx Q
  | 0, s, _, _, _, _, _, hW, hFr, _, h, _ => by cases h
  | k + 1, s, hi, hm, nx, Q, hm0, hW, hFr, x, h, hQ => by
    obtain ⟨z, hz, h1, h2⟩ := zloop_succ h
    exact cmisAllRead_4 s0 D cB cI cJ cD am a1 a2 a3 F G tp w oc n  s z hW hFr hz (fun s' hs hm' hW' hFr' => cmisAllRead_4L s0 D cB cI cJ cD am a1 a2 a3 F G tp w oc n  k s' hW' hFr' (h1 s' hs) hQ) (fun r hr hm' hW' hFr' => hQ r (h2 _ hr).symm hm' hW' hFr')
def misAllRead (n : Nat) (F : Nat → Int32) (w : Nat → Int32) : Option ((Nat → Int32) × (Nat → Int32)) := (zloop (misAllRead_4 n F w) n (0, 0))
theorem oX12_isAllRead : zO yX12_isAllRead cX12_isAllRead 3 none 0 := ⟨zT_mem 1666 (by decide +kernel) rfl, zT_mem 94 (by decide +kernel) rfl, by decide +kernel, by decide +kernel, by decide +kernel⟩
set_option maxHeartbeats 4000000 in
set_option maxRecDepth 100000 in
theorem cmisAllRead (s0 : State) (D : va_G) (cB cI cJ cD : ClassId) (am a1 a2 a3 : Nat) (F : Nat → Int32) (G : Nat → Int64) (tp w oc : Nat → Int32) (n : Nat) (x : (Nat → Int32) × (Nat → Int32)) (h : misAllRead n F w = some x) : mC s0 D cB cI cJ cD am a1 a2 a3 yX12_isAllRead cX12_isAllRead 3 none 1 22 [] F G tp w oc none x.1 G tp x.2 oc := by
  intro hi hm nx Q hW hQ0
  have hQ : ∀ r : (Nat → Int32) × (Nat → Int32), x = r → ∀ hm', mW cB cI am a1 a2 a3 r.1 G tp r.2 oc hm' → mFr am a1 a2 a3 hm hm' → Q none hi hm' nx := fun r hr => by subst hr; exact hQ0
  have hFr : mFr am a1 a2 a3 hm hm := mFr.rf
  clear hQ0
  refine zM_of (by decide +kernel) (Nat.le_of_ble_eq_true rfl) ?_
  unfold misAllRead at h
  refine zV_eq (lo2 := [(0, .ref am)]) rfl rfl rfl rfl ?_
  refine zV_blk (pc' := 4) (lo' := [(2, .int 0), (1, .int 0), (0, .ref am)]) (st' := []) [.iconst 0, .istore_n 1, .iconst 0, .istore_n 2] (by decide +kernel) rfl ?_
  refine zV_pick (lo2 := [(0, .ref am), (1, .int 0), (2, .int 0)]) [2, 1, 0] rfl ?_
  exact cmisAllRead_4L s0 D cB cI cJ cD am a1 a2 a3 F G tp w oc n  n (0, 0) hW hFr h hQ

def mchangesNow_63 (n : Nat) (F : Nat → Int32) (x1 : Int32) (s : Int32 × (Nat → Int32)) : Option ((Int32 × (Nat → Int32)) ⊕ ((Nat → Int32) × (Nat → Int32))) := (if (x1 : Int32) ≤ (s.1 : Int32) then some (.inr ((upd F 14 ((F 14) + 1)), s.2)) else zck (zin (s.1) 35802) (zck (zin (((3978 + (x1 * (F 14))) + s.1)) 35802) (some (.inl ((s.1 + 1), (upd s.2 (((3978 + (x1 * (F 14))) + s.1) : Int32).toNatClampNeg (s.2 (s.1 : Int32).toNatClampNeg)))))))
set_option maxHeartbeats 4000000 in
set_option maxRecDepth 100000 in
theorem cmchangesNow_63 (s0 : State) (D : va_G) (cB cI cJ cD : ClassId) (am a1 a2 a3 : Nat) (F : Nat → Int32) (G : Nat → Int64) (tp : Nat → Int32) (oc : Nat → Int32) (n : Nat) (x1 : Int32) (s : Int32 × (Nat → Int32)) (x : (Int32 × (Nat → Int32)) ⊕ ((Nat → Int32) × (Nat → Int32))) {hi hm : zHp} {nx : Nat} {Q : Option Value → zHp → zHp → Nat → Prop} {hm0 : zHp} (hW : mW cB cI am a1 a2 a3 F G tp s.2 oc hm) (hFr : mFr am a1 a2 a3 hm0 hm) (h : mchangesNow_63 n F x1 s = some x) (hL63 : ∀ s : Int32 × (Nat → Int32), x = (.inl s) → ∀ hm', mW cB cI am a1 a2 a3 F G tp s.2 oc hm' → mFr am a1 a2 a3 hm0 hm' → zV s0 D (zty cB cI cJ cD) yX12_changesNow cX12_changesNow 3 none 0 0 0 0 63 [(0, .ref am), (1, .int x1), (2, .int s.1)] [] hi hm' nx Q) (hQ : ∀ r : (Nat → Int32) × (Nat → Int32), x = (.inr r) → ∀ hm', mW cB cI am a1 a2 a3 r.1 G tp r.2 oc hm' → mFr am a1 a2 a3 hm0 hm' → Q none hi hm' nx) : zV s0 D (zty cB cI cJ cD) yX12_changesNow cX12_changesNow 3 none 0 0 0 0 63 [(0, .ref am), (1, .int x1), (2, .int s.1)] [] hi hm nx Q := by
  unfold mchangesNow_63 at h
  refine zV_blk (pc' := 65) (lo' := [(0, .ref am), (1, .int x1), (2, .int s.1)]) (st' := [.int x1, .int s.1]) [.iload_n 2, .iload_n 1] (by decide +kernel) rfl ?_
  refine zV_icmp_ge (tgt := 97) (off := 32) (by decide +kernel) (by decide) (fun q => ?_) (fun q => ?_)
  · replace h := zif_pos q h
    clear q
    refine zV_blk (pc' := 99) (lo' := [(0, .ref am), (1, .int x1), (2, .int s.1)]) (st' := [.ref am, .ref am]) [.aload_n 0, .dup] (by decide +kernel) rfl ?_
    refine m_get (idx := 205) (k := 14) (v := .int (F 14)) hW m_in12 (by decide) (zT_mem 1454 (by decide +kernel) rfl) rfl (by decide +kernel) ?_
    refine zV_blk (pc' := 104) (lo' := [(0, .ref am), (1, .int x1), (2, .int s.1)]) (st' := [.int ((F 14) + 1), .ref am]) [.iconst 1, .iadd] (by decide +kernel) rfl ?_
    refine m_put (idx := 205) (k := 14) (v := .int ((F 14) + 1)) (F' := (upd F 14 ((F 14) + 1))) (G' := G) hW m_in12 (by decide) (zT_mem 1454 (by decide +kernel) rfl) rfl rfl rfl rfl (by decide +kernel) (fun hm hW hFr2 => ?_)
    replace hFr := hFr.tr hFr2; clear hFr2
    obtain rfl := Option.some.inj h
    exact zV_vret rfl (by decide +kernel) (hQ _ rfl hm hW hFr)
  · replace h := zif_neg q h
    clear q
    refine zV_blk (pc' := 69) (lo' := [(0, .ref am), (1, .int x1), (2, .int s.1)]) (st' := [.ref am]) [.aload_n 0] (by decide +kernel) rfl ?_
    refine m_get (idx := 18) (k := 12) (v := .ref a2) hW m_in12 (by decide) (zT_mem 1452 (by decide +kernel) rfl) rfl (by decide +kernel) ?_
    refine zV_blk (pc' := 77) (lo' := [(0, .ref am), (1, .int x1), (2, .int s.1)]) (st' := [.ref am, .int x1, .int 3978, .ref a2]) [.sipush 3978, .iload_n 1, .aload_n 0] (by decide +kernel) rfl ?_
    refine m_get (idx := 205) (k := 14) (v := .int (F 14)) hW m_in12 (by decide) (zT_mem 1454 (by decide +kernel) rfl) rfl (by decide +kernel) ?_
    refine zV_blk (pc' := 85) (lo' := [(0, .ref am), (1, .int x1), (2, .int s.1)]) (st' := [.ref am, .int ((3978 + (x1 * (F 14))) + s.1), .ref a2]) [.imul, .iadd, .iload_n 2, .iadd, .aload_n 0] (by decide +kernel) rfl ?_
    refine m_get (idx := 18) (k := 12) (v := .ref a2) hW m_in12 (by decide) (zT_mem 1452 (by decide +kernel) rfl) rfl (by decide +kernel) ?_
    refine zV_blk (pc' := 89) (lo' := [(0, .ref am), (1, .int x1), (2, .int s.1)]) (st' := [.int s.1, .ref a2, .int ((3978 + (x1 * (F 14))) + s.1), .ref a2]) [.iload_n 2] (by decide +kernel) rfl ?_
    obtain ⟨hz, h⟩ := zck_some h
    refine m_wld hW hz (by decide +kernel) ?_
    obtain ⟨hz, h⟩ := zck_some h
    refine m_wst hW hz (by decide +kernel) (fun hm hW hFr2 => ?_)
    replace hFr := hFr.tr hFr2; clear hFr2
    refine zV_blk (pc' := 94) (lo' := [(2, .int (s.1 + 1)), (0, .ref am), (1, .int x1)]) (st' := []) [.iinc 2 1] (by decide +kernel) rfl ?_
    refine zV_goto (tgt := 63) (off := -31) (by decide +kernel) (by decide) ?_
    obtain rfl := Option.some.inj h
    refine zV_pick (lo2 := [(0, .ref am), (1, .int x1), (2, .int (s.1 + 1))]) [1, 2, 0] rfl ?_
    exact hL63 _ rfl hm hW hFr
theorem cmchangesNow_63L (s0 : State) (D : va_G) (cB cI cJ cD : ClassId) (am a1 a2 a3 : Nat) (F : Nat → Int32) (G : Nat → Int64) (tp : Nat → Int32) (oc : Nat → Int32) (n : Nat) (x1 : Int32) : ∀ (k : Nat) (s : Int32 × (Nat → Int32)) {hi hm : zHp} {nx : Nat} {Q : Option Value → zHp → zHp → Nat → Prop} {hm0 : zHp} (_ : mW cB cI am a1 a2 a3 F G tp s.2 oc hm) (_ : mFr am a1 a2 a3 hm0 hm) {x : (Nat → Int32) × (Nat → Int32)} (_ : zloop (mchangesNow_63 n F x1) k s = some x) (hQ : ∀ r : (Nat → Int32) × (Nat → Int32), x = r → ∀ hm', mW cB cI am a1 a2 a3 r.1 G tp r.2 oc hm' → mFr am a1 a2 a3 hm0 hm' → Q none hi hm' nx), zV s0 D (zty cB cI cJ cD) yX12_changesNow cX12_changesNow 3 none 0 0 0 0 63 [(0, .ref am), (1, .int x1), (2, .int s.1)] [] hi hm nx Q
  | 0, s, _, _, _, _, _, hW, hFr, _, h, _ => by cases h
  | k + 1, s, hi, hm, nx, Q, hm0, hW, hFr, x, h, hQ => by
    obtain ⟨z, hz, h1, h2⟩ := zloop_succ h
    exact cmchangesNow_63 s0 D cB cI cJ cD am a1 a2 a3 F G tp oc n x1 s z hW hFr hz (fun s' hs hm' hW' hFr' => cmchangesNow_63L s0 D cB cI cJ cD am a1 a2 a3 F G tp oc n x1 k s' hW' hFr' (h1 s' hs) hQ) (fun r hr hm' hW' hFr' => hQ r (h2 _ hr).symm hm' hW' hFr')
def mchangesNow_61 (n : Nat) (F : Nat → Int32) (w : Nat → Int32) (x1 : Int32) : Option ((Nat → Int32) × (Nat → Int32)) := (zloop (mchangesNow_63 n F x1) n (0, w))
set_option maxHeartbeats 4000000 in
set_option maxRecDepth 100000 in
theorem cmchangesNow_61 (s0 : State) (D : va_G) (cB cI cJ cD : ClassId) (am a1 a2 a3 : Nat) (F : Nat → Int32) (G : Nat → Int64) (tp w oc : Nat → Int32) (n : Nat) (x1 : Int32) {hi hm : zHp} {nx : Nat} {Q : Option Value → zHp → zHp → Nat → Prop} {hm0 : zHp} {x : (Nat → Int32) × (Nat → Int32)} (hW : mW cB cI am a1 a2 a3 F G tp w oc hm) (hFr : mFr am a1 a2 a3 hm0 hm) (h : mchangesNow_61 n F w x1 = some x) (hQ : ∀ r : (Nat → Int32) × (Nat → Int32), x = r → ∀ hm', mW cB cI am a1 a2 a3 r.1 G tp r.2 oc hm' → mFr am a1 a2 a3 hm0 hm' → Q none hi hm' nx) : zV s0 D (zty cB cI cJ cD) yX12_changesNow cX12_changesNow 3 none 0 0 0 0 61 [(0, .ref am), (1, .int x1)] [] hi hm nx Q := by
  unfold mchangesNow_61 at h
  refine zV_blk (pc' := 63) (lo' := [(2, .int 0), (0, .ref am), (1, .int x1)]) (st' := []) [.iconst 0, .istore_n 2] (by decide +kernel) rfl ?_
  refine zV_pick (lo2 := [(0, .ref am), (1, .int x1), (2, .int 0)]) [1, 2, 0] rfl ?_
  exact cmchangesNow_63L s0 D cB cI cJ cD am a1 a2 a3 F G tp oc n x1 n (0, w) hW hFr h hQ
def mchangesNow_15 (n : Nat) (F : Nat → Int32) (x1 : Int32) (s : Int32 × (Nat → Int32)) : Option ((Int32 × (Nat → Int32)) ⊕ ((Nat → Int32) × (Nat → Int32))) := (if ((12 * x1) : Int32) ≤ (s.1 : Int32) then ((mchangesNow_61 n (upd F 14 ((F 14) - 1)) s.2 x1).map (fun z => .inr z)) else zck (zin ((3978 + s.1)) 35802) (zck (zin (((3978 + s.1) - x1)) 35802) (some (.inl ((s.1 + 1), (upd s.2 (((3978 + s.1) - x1) : Int32).toNatClampNeg (s.2 ((3978 + s.1) : Int32).toNatClampNeg)))))))
set_option maxHeartbeats 4000000 in
set_option maxRecDepth 100000 in
theorem cmchangesNow_15 (s0 : State) (D : va_G) (cB cI cJ cD : ClassId) (am a1 a2 a3 : Nat) (F : Nat → Int32) (G : Nat → Int64) (tp : Nat → Int32) (oc : Nat → Int32) (n : Nat) (x1 : Int32) (s : Int32 × (Nat → Int32)) (x : (Int32 × (Nat → Int32)) ⊕ ((Nat → Int32) × (Nat → Int32))) {hi hm : zHp} {nx : Nat} {Q : Option Value → zHp → zHp → Nat → Prop} {hm0 : zHp} (hW : mW cB cI am a1 a2 a3 F G tp s.2 oc hm) (hFr : mFr am a1 a2 a3 hm0 hm) (h : mchangesNow_15 n F x1 s = some x) (hL15 : ∀ s : Int32 × (Nat → Int32), x = (.inl s) → ∀ hm', mW cB cI am a1 a2 a3 F G tp s.2 oc hm' → mFr am a1 a2 a3 hm0 hm' → zV s0 D (zty cB cI cJ cD) yX12_changesNow cX12_changesNow 3 none 0 0 0 0 15 [(0, .ref am), (1, .int x1), (2, .int s.1)] [] hi hm' nx Q) (hQ : ∀ r : (Nat → Int32) × (Nat → Int32), x = (.inr r) → ∀ hm', mW cB cI am a1 a2 a3 r.1 G tp r.2 oc hm' → mFr am a1 a2 a3 hm0 hm' → Q none hi hm' nx) : zV s0 D (zty cB cI cJ cD) yX12_changesNow cX12_changesNow 3 none 0 0 0 0 15 [(0, .ref am), (1, .int x1), (2, .int s.1)] [] hi hm nx Q := by
  unfold mchangesNow_15 at h
  refine zV_blk (pc' := 20) (lo' := [(0, .ref am), (1, .int x1), (2, .int s.1)]) (st' := [.int (12 * x1), .int s.1]) [.iload_n 2, .bipush 12, .iload_n 1, .imul] (by decide +kernel) rfl ?_
  refine zV_icmp_ge (tgt := 51) (off := 31) (by decide +kernel) (by decide) (fun q => ?_) (fun q => ?_)
  · replace h := zif_pos q h
    clear q
    refine zV_blk (pc' := 53) (lo' := [(0, .ref am), (1, .int x1), (2, .int s.1)]) (st' := [.ref am, .ref am]) [.aload_n 0, .dup] (by decide +kernel) rfl ?_
    refine m_get (idx := 205) (k := 14) (v := .int (F 14)) hW m_in12 (by decide) (zT_mem 1454 (by decide +kernel) rfl) rfl (by decide +kernel) ?_
    refine zV_blk (pc' := 58) (lo' := [(0, .ref am), (1, .int x1), (2, .int s.1)]) (st' := [.int ((F 14) - 1), .ref am]) [.iconst 1, .isub] (by decide +kernel) rfl ?_
    refine m_put (idx := 205) (k := 14) (v := .int ((F 14) - 1)) (F' := (upd F 14 ((F 14) - 1))) (G' := G) hW m_in12 (by decide) (zT_mem 1454 (by decide +kernel) rfl) rfl rfl rfl rfl (by decide +kernel) (fun hm hW hFr2 => ?_)
    replace hFr := hFr.tr hFr2; clear hFr2
    obtain ⟨z1, h9, hx⟩ := zmap h
    clear h; subst hx; have h := h9; clear h9
    refine zV_pick (lo2 := [(0, .ref am), (1, .int x1)]) [0, 1] rfl ?_
    exact cmchangesNow_61 s0 D cB cI cJ cD am a1 a2 a3 (upd F 14 ((F 14) - 1)) G tp s.2 oc n x1 hW hFr h (fun r hr => hQ r (by rw [hr]))
  · replace h := zif_neg q h
    clear q
    refine zV_blk (pc' := 24) (lo' := [(0, .ref am), (1, .int x1), (2, .int s.1)]) (st' := [.ref am]) [.aload_n 0] (by decide +kernel) rfl ?_
    refine m_get (idx := 18) (k := 12) (v := .ref a2) hW m_in12 (by decide) (zT_mem 1452 (by decide +kernel) rfl) rfl (by decide +kernel) ?_
    refine zV_blk (pc' := 35) (lo' := [(0, .ref am), (1, .int x1), (2, .int s.1)]) (st' := [.ref am, .int ((3978 + s.1) - x1), .ref a2]) [.sipush 3978, .iload_n 2, .iadd, .iload_n 1, .isub, .aload_n 0] (by decide +kernel) rfl ?_
    refine m_get (idx := 18) (k := 12) (v := .ref a2) hW m_in12 (by decide) (zT_mem 1452 (by decide +kernel) rfl) rfl (by decide +kernel) ?_
    refine zV_blk (pc' := 43) (lo' := [(0, .ref am), (1, .int x1), (2, .int s.1)]) (st' := [.int (3978 + s.1), .ref a2, .int ((3978 + s.1) - x1), .ref a2]) [.sipush 3978, .iload_n 2, .iadd] (by decide +kernel) rfl ?_
    obtain ⟨hz, h⟩ := zck_some h
    refine m_wld hW hz (by decide +kernel) ?_
    obtain ⟨hz, h⟩ := zck_some h
    refine m_wst hW hz (by decide +kernel) (fun hm hW hFr2 => ?_)
    replace hFr := hFr.tr hFr2; clear hFr2
    refine zV_blk (pc' := 48) (lo' := [(2, .int (s.1 + 1)), (0, .ref am), (1, .int x1)]) (st' := []) [.iinc 2 1] (by decide +kernel) rfl ?_
    refine zV_goto (tgt := 15) (off := -33) (by decide +kernel) (by decide) ?_
    obtain rfl := Option.some.inj h
    refine zV_pick (lo2 := [(0, .ref am), (1, .int x1), (2, .int (s.1 + 1))]) [1, 2, 0] rfl ?_
    exact hL15 _ rfl hm hW hFr
theorem cmchangesNow_15L (s0 : State) (D : va_G) (cB cI cJ cD : ClassId) (am a1 a2 a3 : Nat) (F : Nat → Int32) (G : Nat → Int64) (tp : Nat → Int32) (oc : Nat → Int32) (n : Nat) (x1 : Int32) : ∀ (k : Nat) (s : Int32 × (Nat → Int32)) {hi hm : zHp} {nx : Nat} {Q : Option Value → zHp → zHp → Nat → Prop} {hm0 : zHp} (_ : mW cB cI am a1 a2 a3 F G tp s.2 oc hm) (_ : mFr am a1 a2 a3 hm0 hm) {x : (Nat → Int32) × (Nat → Int32)} (_ : zloop (mchangesNow_15 n F x1) k s = some x) (hQ : ∀ r : (Nat → Int32) × (Nat → Int32), x = r → ∀ hm', mW cB cI am a1 a2 a3 r.1 G tp r.2 oc hm' → mFr am a1 a2 a3 hm0 hm' → Q none hi hm' nx), zV s0 D (zty cB cI cJ cD) yX12_changesNow cX12_changesNow 3 none 0 0 0 0 15 [(0, .ref am), (1, .int x1), (2, .int s.1)] [] hi hm nx Q
  | 0, s, _, _, _, _, _, hW, hFr, _, h, _ => by cases h
  | k + 1, s, hi, hm, nx, Q, hm0, hW, hFr, x, h, hQ => by
    obtain ⟨z, hz, h1, h2⟩ := zloop_succ h
    exact cmchangesNow_15 s0 D cB cI cJ cD am a1 a2 a3 F G tp oc n x1 s z hW hFr hz (fun s' hs hm' hW' hFr' => cmchangesNow_15L s0 D cB cI cJ cD am a1 a2 a3 F G tp oc n x1 k s' hW' hFr' (h1 s' hs) hQ) (fun r hr hm' hW' hFr' => hQ r (h2 _ hr).symm hm' hW' hFr')
def mchangesNow (n : Nat) (F : Nat → Int32) (w : Nat → Int32) : Option ((Nat → Int32) × (Nat → Int32)) := (if ((F 14) : Int32) = (12 : Int32) then (zloop (mchangesNow_15 n F 2652) n (2652, w)) else (mchangesNow_61 n F w 2652))
theorem oX12_changesNow : zO yX12_changesNow cX12_changesNow 3 none 0 := ⟨zT_mem 1670 (by decide +kernel) rfl, zT_mem 94 (by decide +kernel) rfl, by decide +kernel, by decide +kernel, by decide +kernel⟩
set_option maxHeartbeats 4000000 in
set_option maxRecDepth 100000 in
theorem cmchangesNow (s0 : State) (D : va_G) (cB cI cJ cD : ClassId) (am a1 a2 a3 : Nat) (F : Nat → Int32) (G : Nat → Int64) (tp w oc : Nat → Int32) (n : Nat) (x : (Nat → Int32) × (Nat → Int32)) (h : mchangesNow n F w = some x) : mC s0 D cB cI cJ cD am a1 a2 a3 yX12_changesNow cX12_changesNow 3 none 0 0 [] F G tp w oc none x.1 G tp x.2 oc := by
  intro hi hm nx Q hW hQ0
  have hQ : ∀ r : (Nat → Int32) × (Nat → Int32), x = r → ∀ hm', mW cB cI am a1 a2 a3 r.1 G tp r.2 oc hm' → mFr am a1 a2 a3 hm hm' → Q none hi hm' nx := fun r hr => by subst hr; exact hQ0
  have hFr : mFr am a1 a2 a3 hm hm := mFr.rf
  clear hQ0
  refine zM_of (by decide +kernel) (Nat.le_of_ble_eq_true rfl) ?_
  unfold mchangesNow at h
  refine zV_eq (lo2 := [(0, .ref am)]) rfl rfl rfl rfl ?_
  refine zV_blk (pc' := 5) (lo' := [(1, .int 2652), (0, .ref am)]) (st' := [.ref am]) [.sipush 2652, .istore_n 1, .aload_n 0] (by decide +kernel) rfl ?_
  refine m_get (idx := 205) (k := 14) (v := .int (F 14)) hW m_in12 (by decide) (zT_mem 1454 (by decide +kernel) rfl) rfl (by decide +kernel) ?_
  refine zV_blk (pc' := 10) (lo' := [(1, .int 2652), (0, .ref am)]) (st' := [.int 12, .int (F 14)]) [.bipush 12] (by decide +kernel) rfl ?_
  refine zV_icmp_ne (tgt := 61) (off := 51) (by decide +kernel) (by decide) (fun q => ?_) (fun q => ?_)
  · replace h := zif_neg q h
    clear q
    refine zV_pick (lo2 := [(0, .ref am), (1, .int 2652)]) [1, 0] rfl ?_
    exact cmchangesNow_61 s0 D cB cI cJ cD am a1 a2 a3 F G tp w oc n 2652 hW hFr h hQ
  · replace h := zif_pos q h
    clear q
    refine zV_blk (pc' := 15) (lo' := [(2, .int 2652), (1, .int 2652), (0, .ref am)]) (st' := []) [.iload_n 1, .istore_n 2] (by decide +kernel) rfl ?_
    refine zV_pick (lo2 := [(0, .ref am), (1, .int 2652), (2, .int 2652)]) [2, 1, 0] rfl ?_
    exact cmchangesNow_15L s0 D cB cI cJ cD am a1 a2 a3 F G tp oc n 2652 n (2652, w) hW hFr h hQ

def mdesign_53 (n : Nat) (F : Nat → Int32) (tp : Nat → Int32) (w : Nat → Int32) (x1 : Int32) : Option (Int32 × (Nat → Int32) × (Nat → Int32)) := (misAllRead n F w).bind (fun v1 => (if (((upd (upd v1.1 8 (v1.1 6)) 9 ((upd v1.1 8 (v1.1 6)) 7)) 6) : Int32) = (0 : Int32) then (mchangesNow n (upd (upd v1.1 8 (v1.1 6)) 9 ((upd v1.1 8 (v1.1 6)) 7)) v1.2).bind (fun v2 => (mbank x1).bind (fun v3 => (mcopies n v2.2 v3 2652).bind (fun v4 => zck (zin (2660) 35802) (some ((v4 (2660 : Int32).toNatClampNeg), v2.1, v4))))) else some ((-1), (upd (upd v1.1 8 (v1.1 6)) 9 ((upd v1.1 8 (v1.1 6)) 7)), v1.2)))
set_option maxHeartbeats 4000000 in
set_option maxRecDepth 100000 in
theorem cmdesign_53 (s0 : State) (D : va_G) (cB cI cJ cD : ClassId) (am a1 a2 a3 : Nat) (F : Nat → Int32) (G : Nat → Int64) (tp w oc : Nat → Int32) (n : Nat) (x1 : Int32) {hi hm : zHp} {nx : Nat} {Q : Option Value → zHp → zHp → Nat → Prop} {hm0 : zHp} {x : Int32 × (Nat → Int32) × (Nat → Int32)} (hW : mW cB cI am a1 a2 a3 F G tp w oc hm) (hFr : mFr am a1 a2 a3 hm0 hm) (h : mdesign_53 n F tp w x1 = some x) (hQ : ∀ r : Int32 × (Nat → Int32) × (Nat → Int32), x = r → ∀ hm', mW cB cI am a1 a2 a3 r.2.1 G tp r.2.2 oc hm' → mFr am a1 a2 a3 hm0 hm' → Q (some (.int r.1)) hi hm' nx) : zV s0 D (zty cB cI cJ cD) yX12_design cX12_design 2 (some .int) 8 182 0 0 53 [(0, .ref am), (1, .int x1)] [] hi hm nx Q := by
  unfold mdesign_53 at h
  refine zV_blk (pc' := 54) (lo' := [(0, .ref am), (1, .int x1)]) (st' := [.ref am]) [.aload_n 0] (by decide +kernel) rfl ?_
  obtain ⟨v1, hv1, h⟩ := zbind h
  refine m_cC (idx := 217) (rest := []) hW (cmisAllRead s0 D cB cI cJ cD am a1 a2 a3 F G tp w oc n  v1 hv1) oX12_isAllRead rfl (zT_mem 1663 (by decide +kernel) rfl) (zT_mem 1665 (by decide +kernel) rfl) (zT_mem 46 (by decide +kernel) rfl) rfl rfl (Nat.le_of_ble_eq_true rfl) ⟨by decide, by decide⟩ (by decide +kernel) (fun hm hW hFr2 => ?_)
  replace hFr := hFr.tr hFr2; clear hFr2
  refine zV_eq (st2 := []) rfl rfl rfl rfl ?_
  refine zV_blk (pc' := 59) (lo' := [(0, .ref am), (1, .int x1)]) (st' := [.ref am, .ref am]) [.aload_n 0, .aload_n 0] (by decide +kernel) rfl ?_
  refine m_get (idx := 61) (k := 6) (v := .int (v1.1 6)) hW m_in12 (by decide) (zT_mem 1446 (by decide +kernel) rfl) rfl (by decide +kernel) ?_
  refine m_put (idx := 220) (k := 8) (v := .int (v1.1 6)) (F' := (upd v1.1 8 (v1.1 6))) (G' := G) hW m_in12 (by decide) (zT_mem 1448 (by decide +kernel) rfl) rfl rfl rfl rfl (by decide +kernel) (fun hm hW hFr2 => ?_)
  replace hFr := hFr.tr hFr2; clear hFr2
  refine zV_blk (pc' := 67) (lo' := [(0, .ref am), (1, .int x1)]) (st' := [.ref am, .ref am]) [.aload_n 0, .aload_n 0] (by decide +kernel) rfl ?_
  refine m_get (idx := 64) (k := 7) (v := .int ((upd v1.1 8 (v1.1 6)) 7)) hW m_in12 (by decide) (zT_mem 1447 (by decide +kernel) rfl) rfl (by decide +kernel) ?_
  refine m_put (idx := 13) (k := 9) (v := .int ((upd v1.1 8 (v1.1 6)) 7)) (F' := (upd (upd v1.1 8 (v1.1 6)) 9 ((upd v1.1 8 (v1.1 6)) 7))) (G' := G) hW m_in12 (by decide) (zT_mem 1449 (by decide +kernel) rfl) rfl rfl rfl rfl (by decide +kernel) (fun hm hW hFr2 => ?_)
  replace hFr := hFr.tr hFr2; clear hFr2
  refine zV_blk (pc' := 74) (lo' := [(0, .ref am), (1, .int x1)]) (st' := [.ref am]) [.aload_n 0] (by decide +kernel) rfl ?_
  refine m_get (idx := 61) (k := 6) (v := .int ((upd (upd v1.1 8 (v1.1 6)) 9 ((upd v1.1 8 (v1.1 6)) 7)) 6)) hW m_in12 (by decide) (zT_mem 1446 (by decide +kernel) rfl) rfl (by decide +kernel) ?_
  refine zV_if_eq (tgt := 82) (off := 5) (by decide +kernel) (by decide) (fun q => ?_) (fun q => ?_)
  · replace h := zif_pos q h
    clear q
    refine zV_blk (pc' := 83) (lo' := [(0, .ref am), (1, .int x1)]) (st' := [.ref am]) [.aload_n 0] (by decide +kernel) rfl ?_
    obtain ⟨v2, hv2, h⟩ := zbind h
    refine m_cC (idx := 223) (rest := []) hW (cmchangesNow s0 D cB cI cJ cD am a1 a2 a3 (upd (upd v1.1 8 (v1.1 6)) 9 ((upd v1.1 8 (v1.1 6)) 7)) G tp v1.2 oc n  v2 hv2) oX12_changesNow rfl (zT_mem 1667 (by decide +kernel) rfl) (zT_mem 1669 (by decide +kernel) rfl) (zT_mem 47 (by decide +kernel) rfl) rfl rfl (Nat.le_of_ble_eq_true rfl) ⟨by decide, by decide⟩ (by decide +kernel) (fun hm hW hFr2 => ?_)
    replace hFr := hFr.tr hFr2; clear hFr2
    refine zV_eq (st2 := []) rfl rfl rfl rfl ?_
    refine zV_blk (pc' := 88) (lo' := [(0, .ref am), (1, .int x1)]) (st' := [.int x1, .ref am]) [.aload_n 0, .iload_n 1] (by decide +kernel) rfl ?_
    obtain ⟨v3, hv3, h⟩ := zbind h
    refine zV_sC (idx := 118) (rest := [.ref am]) (cmbank s0 D cB cI cJ cD x1 v3 hv3) oX12_bank (zT_mem 1671 (by decide +kernel) rfl) (zT_mem 1672 (by decide +kernel) rfl) rfl rfl (Nat.le_of_ble_eq_true rfl) ⟨by decide, by decide⟩ (by decide +kernel) ?_
    refine zV_eq (st2 := [.int v3, .ref am]) rfl rfl rfl rfl ?_
    refine zV_blk (pc' := 94) (lo' := [(0, .ref am), (1, .int x1)]) (st' := [.int 2652, .int v3, .ref am]) [.sipush 2652] (by decide +kernel) rfl ?_
    obtain ⟨v4, hv4, h⟩ := zbind h
    refine m_cC (idx := 226) (rest := []) hW (cmcopies s0 D cB cI cJ cD am a1 a2 a3 v2.1 G tp v2.2 oc n v3 2652 v4 hv4) oX12_copies rfl (zT_mem 1674 (by decide +kernel) rfl) (zT_mem 1676 (by decide +kernel) rfl) (zT_mem 48 (by decide +kernel) rfl) rfl rfl (Nat.le_of_ble_eq_true rfl) ⟨by decide, by decide⟩ (by decide +kernel) (fun hm hW hFr2 => ?_)
    replace hFr := hFr.tr hFr2; clear hFr2
    refine zV_eq (st2 := []) rfl rfl rfl rfl ?_
    refine zV_blk (pc' := 98) (lo' := [(0, .ref am), (1, .int x1)]) (st' := [.ref am]) [.aload_n 0] (by decide +kernel) rfl ?_
    refine m_get (idx := 18) (k := 12) (v := .ref a2) hW m_in12 (by decide) (zT_mem 1452 (by decide +kernel) rfl) rfl (by decide +kernel) ?_
    refine zV_blk (pc' := 104) (lo' := [(0, .ref am), (1, .int x1)]) (st' := [.int 2660, .ref a2]) [.sipush 2660] (by decide +kernel) rfl ?_
    obtain ⟨hz, h⟩ := zck_some h
    refine m_wld hW hz (by decide +kernel) ?_
    obtain rfl := Option.some.inj h
    exact zV_iret rfl (by decide +kernel) (hQ _ rfl hm hW hFr)
  · replace h := zif_neg q h
    clear q
    refine zV_blk (pc' := 81) (lo' := [(0, .ref am), (1, .int x1)]) (st' := [.int (-1)]) [.iconst (-1)] (by decide +kernel) rfl ?_
    obtain rfl := Option.some.inj h
    exact zV_iret rfl (by decide +kernel) (hQ _ rfl hm hW hFr)
def mdesign_28 (n : Nat) (tp : Nat → Int32) (x1 : Int32) (s : (Nat → Int32) × (Nat → Int32)) : Option (((Nat → Int32) × (Nat → Int32)) ⊕ (Int32 × (Nat → Int32) × (Nat → Int32))) := (misFine s.1).bind (fun v1 => (if v1 = true then (mnext n s.1 tp).bind (fun v3 => (if ((v3.2 3) : Int32) ≤ (v3.1 : Int32) then ((mdesign_53 n v3.2 tp s.2 x1).map (fun z => .inr z)) else (mstatement n v3.2 tp s.2).bind (fun v5 => some (.inl (v5.1, v5.2))))) else ((mdesign_53 n s.1 tp s.2 x1).map (fun z => .inr z))))
set_option maxHeartbeats 4000000 in
set_option maxRecDepth 100000 in
theorem cmdesign_28 (s0 : State) (D : va_G) (cB cI cJ cD : ClassId) (am a1 a2 a3 : Nat) (G : Nat → Int64) (tp : Nat → Int32) (oc : Nat → Int32) (n : Nat) (x1 : Int32) (s : (Nat → Int32) × (Nat → Int32)) (x : ((Nat → Int32) × (Nat → Int32)) ⊕ (Int32 × (Nat → Int32) × (Nat → Int32))) {hi hm : zHp} {nx : Nat} {Q : Option Value → zHp → zHp → Nat → Prop} {hm0 : zHp} (hW : mW cB cI am a1 a2 a3 s.1 G tp s.2 oc hm) (hFr : mFr am a1 a2 a3 hm0 hm) (h : mdesign_28 n tp x1 s = some x) (hL28 : ∀ s : (Nat → Int32) × (Nat → Int32), x = (.inl s) → ∀ hm', mW cB cI am a1 a2 a3 s.1 G tp s.2 oc hm' → mFr am a1 a2 a3 hm0 hm' → zV s0 D (zty cB cI cJ cD) yX12_design cX12_design 2 (some .int) 8 182 0 0 28 [(0, .ref am), (1, .int x1)] [] hi hm' nx Q) (hQ : ∀ r : Int32 × (Nat → Int32) × (Nat → Int32), x = (.inr r) → ∀ hm', mW cB cI am a1 a2 a3 r.2.1 G tp r.2.2 oc hm' → mFr am a1 a2 a3 hm0 hm' → Q (some (.int r.1)) hi hm' nx) : zV s0 D (zty cB cI cJ cD) yX12_design cX12_design 2 (some .int) 8 182 0 0 28 [(0, .ref am), (1, .int x1)] [] hi hm nx Q := by
  unfold mdesign_28 at h
  refine zV_blk (pc' := 29) (lo' := [(0, .ref am), (1, .int x1)]) (st' := [.ref am]) [.aload_n 0] (by decide +kernel) rfl ?_
  obtain ⟨v1, hv1, h⟩ := zbind h
  refine m_cR (idx := 86) (rest := []) hW (cmisFine s0 D cB cI cJ cD am a1 a2 a3 s.1 G tp s.2 oc  v1 hv1) oX12_isFine rfl (zT_mem 1547 (by decide +kernel) rfl) (zT_mem 1549 (by decide +kernel) rfl) (zT_mem 23 (by decide +kernel) rfl) rfl rfl (Nat.le_of_ble_eq_true rfl) ⟨by decide, by decide⟩ (by decide +kernel) ?_
  refine zV_eq (st2 := [.int (zb v1)]) rfl rfl rfl rfl ?_
  refine zV_bif_eq (tgt := 53) (off := 21) (by decide +kernel) (by decide) (fun q => ?_) (fun q => ?_)
  · replace h := zif_neg q h
    clear q
    obtain ⟨z2, h9, hx⟩ := zmap h
    clear h; subst hx; have h := h9; clear h9
    refine zV_pick (lo2 := [(0, .ref am), (1, .int x1)]) [0, 1] rfl ?_
    exact cmdesign_53 s0 D cB cI cJ cD am a1 a2 a3 s.1 G tp s.2 oc n x1 hW hFr h (fun r hr => hQ r (by rw [hr]))
  · replace h := zif_pos q h
    clear q
    refine zV_blk (pc' := 36) (lo' := [(0, .ref am), (1, .int x1)]) (st' := [.ref am]) [.aload_n 0] (by decide +kernel) rfl ?_
    obtain ⟨v3, hv3, h⟩ := zbind h
    refine m_cC (idx := 75) (rest := []) hW (cmnext s0 D cB cI cJ cD am a1 a2 a3 s.1 G tp s.2 oc n  v3 hv3) oX12_next rfl (zT_mem 1551 (by decide +kernel) rfl) (zT_mem 1553 (by decide +kernel) rfl) (zT_mem 24 (by decide +kernel) rfl) rfl rfl (Nat.le_of_ble_eq_true rfl) ⟨by decide, by decide⟩ (by decide +kernel) (fun hm hW hFr2 => ?_)
    replace hFr := hFr.tr hFr2; clear hFr2
    refine zV_eq (st2 := [.int v3.1]) rfl rfl rfl rfl ?_
    refine zV_blk (pc' := 40) (lo' := [(0, .ref am), (1, .int x1)]) (st' := [.ref am, .int v3.1]) [.aload_n 0] (by decide +kernel) rfl ?_
    refine m_get (idx := 52) (k := 3) (v := .int (v3.2 3)) hW m_in12 (by decide) (zT_mem 1443 (by decide +kernel) rfl) rfl (by decide +kernel) ?_
    refine zV_icmp_ge (tgt := 53) (off := 10) (by decide +kernel) (by decide) (fun q => ?_) (fun q => ?_)
    · replace h := zif_pos q h
      clear q
      obtain ⟨z4, h9, hx⟩ := zmap h
      clear h; subst hx; have h := h9; clear h9
      refine zV_pick (lo2 := [(0, .ref am), (1, .int x1)]) [0, 1] rfl ?_
      exact cmdesign_53 s0 D cB cI cJ cD am a1 a2 a3 v3.2 G tp s.2 oc n x1 hW hFr h (fun r hr => hQ r (by rw [hr]))
    · replace h := zif_neg q h
      clear q
      refine zV_blk (pc' := 47) (lo' := [(0, .ref am), (1, .int x1)]) (st' := [.ref am]) [.aload_n 0] (by decide +kernel) rfl ?_
      obtain ⟨v5, hv5, h⟩ := zbind h
      refine m_cC (idx := 214) (rest := []) hW (cmstatement s0 D cB cI cJ cD am a1 a2 a3 v3.2 G tp s.2 oc n  v5 hv5) oX12_statement rfl (zT_mem 1555 (by decide +kernel) rfl) (zT_mem 1557 (by decide +kernel) rfl) (zT_mem 25 (by decide +kernel) rfl) rfl rfl (Nat.le_of_ble_eq_true rfl) ⟨by decide, by decide⟩ (by decide +kernel) (fun hm hW hFr2 => ?_)
      replace hFr := hFr.tr hFr2; clear hFr2
      refine zV_eq (st2 := []) rfl rfl rfl rfl ?_
      refine zV_goto (tgt := 28) (off := -22) (by decide +kernel) (by decide) ?_
      obtain rfl := Option.some.inj h
      refine zV_pick (lo2 := [(0, .ref am), (1, .int x1)]) [0, 1] rfl ?_
      exact hL28 _ rfl hm hW hFr
theorem cmdesign_28L (s0 : State) (D : va_G) (cB cI cJ cD : ClassId) (am a1 a2 a3 : Nat) (G : Nat → Int64) (tp : Nat → Int32) (oc : Nat → Int32) (n : Nat) (x1 : Int32) : ∀ (k : Nat) (s : (Nat → Int32) × (Nat → Int32)) {hi hm : zHp} {nx : Nat} {Q : Option Value → zHp → zHp → Nat → Prop} {hm0 : zHp} (_ : mW cB cI am a1 a2 a3 s.1 G tp s.2 oc hm) (_ : mFr am a1 a2 a3 hm0 hm) {x : Int32 × (Nat → Int32) × (Nat → Int32)} (_ : zloop (mdesign_28 n tp x1) k s = some x) (hQ : ∀ r : Int32 × (Nat → Int32) × (Nat → Int32), x = r → ∀ hm', mW cB cI am a1 a2 a3 r.2.1 G tp r.2.2 oc hm' → mFr am a1 a2 a3 hm0 hm' → Q (some (.int r.1)) hi hm' nx), zV s0 D (zty cB cI cJ cD) yX12_design cX12_design 2 (some .int) 8 182 0 0 28 [(0, .ref am), (1, .int x1)] [] hi hm nx Q
  | 0, s, _, _, _, _, _, hW, hFr, _, h, _ => by cases h
  | k + 1, s, hi, hm, nx, Q, hm0, hW, hFr, x, h, hQ => by
    obtain ⟨z, hz, h1, h2⟩ := zloop_succ h
    exact cmdesign_28 s0 D cB cI cJ cD am a1 a2 a3 G tp oc n x1 s z hW hFr hz (fun s' hs hm' hW' hFr' => cmdesign_28L s0 D cB cI cJ cD am a1 a2 a3 G tp oc n x1 k s' hW' hFr' (h1 s' hs) hQ) (fun r hr hm' hW' hFr' => hQ r (h2 _ hr).symm hm' hW' hFr')
def mdesign (n : Nat) (F : Nat → Int32) (tp : Nat → Int32) (w : Nat → Int32) (x1 : Int32) : Option (Int32 × (Nat → Int32) × (Nat → Int32)) := (misIn (x1 : Int32).toInt64 0 5).bind (fun v1 => (if v1 = true then (mbeginsText (upd F 0 0)).bind (fun v2 => (mplainly n v2 w).bind (fun v3 => (zloop (mdesign_28 n tp x1) n (v3.1, v3.2)))) else some ((-2), (upd F 0 0), w)))
theorem oX12_design : zO yX12_design cX12_design 2 (some .int) 1 := ⟨zT_mem 1537 (by decide +kernel) rfl, zT_mem 94 (by decide +kernel) rfl, by decide +kernel, by decide +kernel, by decide +kernel⟩
set_option maxHeartbeats 4000000 in
set_option maxRecDepth 100000 in
theorem cmdesign (s0 : State) (D : va_G) (cB cI cJ cD : ClassId) (am a1 a2 a3 : Nat) (F : Nat → Int32) (G : Nat → Int64) (tp w oc : Nat → Int32) (n : Nat) (x1 : Int32) (x : Int32 × (Nat → Int32) × (Nat → Int32)) (h : mdesign n F tp w x1 = some x) : mC s0 D cB cI cJ cD am a1 a2 a3 yX12_design cX12_design 2 (some .int) 8 182 [.int x1] F G tp w oc (some (.int x.1)) x.2.1 G tp x.2.2 oc := by
  intro hi hm nx Q hW hQ0
  have hQ : ∀ r : Int32 × (Nat → Int32) × (Nat → Int32), x = r → ∀ hm', mW cB cI am a1 a2 a3 r.2.1 G tp r.2.2 oc hm' → mFr am a1 a2 a3 hm hm' → Q (some (.int r.1)) hi hm' nx := fun r hr => by subst hr; exact hQ0
  have hFr : mFr am a1 a2 a3 hm hm := mFr.rf
  clear hQ0
  refine zM_of (by decide +kernel) (Nat.le_of_ble_eq_true rfl) ?_
  unfold mdesign at h
  refine zV_eq (lo2 := [(0, .ref am), (1, .int x1)]) rfl rfl rfl rfl ?_
  refine zV_blk (pc' := 2) (lo' := [(0, .ref am), (1, .int x1)]) (st' := [.int 0, .ref am]) [.aload_n 0, .iconst 0] (by decide +kernel) rfl ?_
  refine m_put (idx := 25) (k := 0) (v := .int 0) (F' := (upd F 0 0)) (G' := G) hW m_in12 (by decide) (zT_mem 1440 (by decide +kernel) rfl) rfl rfl rfl rfl (by decide +kernel) (fun hm hW hFr2 => ?_)
  replace hFr := hFr.tr hFr2; clear hFr2
  refine zV_blk (pc' := 8) (lo' := [(0, .ref am), (1, .int x1)]) (st' := [.long 0, .long (x1 : Int32).toInt64]) [.iload_n 1, .i2l, .lconst 0] (by decide +kernel) rfl ?_
  refine zV_ldc2 (idx := 116) (v := 5) (zT_mem 1538 (by decide +kernel) rfl) (by decide +kernel) ?_
  obtain ⟨v1, hv1, h⟩ := zbind h
  refine zV_sC (idx := 36) (rest := []) (cmisIn s0 D cB cI cJ cD (x1 : Int32).toInt64 0 5 v1 hv1) oX12_isIn (zT_mem 1531 (by decide +kernel) rfl) (zT_mem 1532 (by decide +kernel) rfl) rfl rfl (Nat.le_of_ble_eq_true rfl) ⟨by decide, by decide⟩ (by decide +kernel) ?_
  refine zV_eq (st2 := [.int (zb v1)]) rfl rfl rfl rfl ?_
  refine zV_bif_ne (tgt := 20) (off := 6) (by decide +kernel) (by decide) (fun q => ?_) (fun q => ?_)
  · replace h := zif_pos q h
    clear q
    refine zV_blk (pc' := 21) (lo' := [(0, .ref am), (1, .int x1)]) (st' := [.ref am]) [.aload_n 0] (by decide +kernel) rfl ?_
    obtain ⟨v2, hv2, h⟩ := zbind h
    refine m_cC (idx := 208) (rest := []) hW (cmbeginsText s0 D cB cI cJ cD am a1 a2 a3 (upd F 0 0) G tp w oc  v2 hv2) oX12_beginsText rfl (zT_mem 1539 (by decide +kernel) rfl) (zT_mem 1541 (by decide +kernel) rfl) (zT_mem 21 (by decide +kernel) rfl) rfl rfl (Nat.le_of_ble_eq_true rfl) ⟨by decide, by decide⟩ (by decide +kernel) (fun hm hW hFr2 => ?_)
    replace hFr := hFr.tr hFr2; clear hFr2
    refine zV_eq (st2 := []) rfl rfl rfl rfl ?_
    refine zV_blk (pc' := 25) (lo' := [(0, .ref am), (1, .int x1)]) (st' := [.ref am]) [.aload_n 0] (by decide +kernel) rfl ?_
    obtain ⟨v3, hv3, h⟩ := zbind h
    refine m_cC (idx := 211) (rest := []) hW (cmplainly s0 D cB cI cJ cD am a1 a2 a3 v2 G tp w oc n  v3 hv3) oX12_plainly rfl (zT_mem 1543 (by decide +kernel) rfl) (zT_mem 1545 (by decide +kernel) rfl) (zT_mem 22 (by decide +kernel) rfl) rfl rfl (Nat.le_of_ble_eq_true rfl) ⟨by decide, by decide⟩ (by decide +kernel) (fun hm hW hFr2 => ?_)
    replace hFr := hFr.tr hFr2; clear hFr2
    refine zV_eq (st2 := []) rfl rfl rfl rfl ?_
    refine zV_pick (lo2 := [(0, .ref am), (1, .int x1)]) [0, 1] rfl ?_
    exact cmdesign_28L s0 D cB cI cJ cD am a1 a2 a3 G tp oc n x1 n (v3.1, v3.2) hW hFr h hQ
  · replace h := zif_neg q h
    clear q
    refine zV_blk (pc' := 19) (lo' := [(0, .ref am), (1, .int x1)]) (st' := [.int (-2)]) [.bipush (-2)] (by decide +kernel) rfl ?_
    obtain rfl := Option.some.inj h
    exact zV_iret rfl (by decide +kernel) (hQ _ rfl hm hW hFr)

def mfault (F : Nat → Int32) (x1 : Int32) : Option (Int32 × (Nat → Int32)) := (if (x1 : Int32) = (0 : Int32) then some (((upd F 0 0) 8), (upd F 0 0)) else (if (x1 : Int32) = (1 : Int32) then some (((upd F 0 0) 9), (upd F 0 0)) else some ((-1), (upd F 0 0))))
theorem oX12_fault : zO yX12_fault cX12_fault 2 (some .int) 1 := ⟨zT_mem 1681 (by decide +kernel) rfl, zT_mem 94 (by decide +kernel) rfl, by decide +kernel, by decide +kernel, by decide +kernel⟩
set_option maxHeartbeats 4000000 in
set_option maxRecDepth 100000 in
theorem cmfault (s0 : State) (D : va_G) (cB cI cJ cD : ClassId) (am a1 a2 a3 : Nat) (F : Nat → Int32) (G : Nat → Int64) (tp w oc : Nat → Int32) (x1 : Int32) (x : Int32 × (Nat → Int32)) (h : mfault F x1 = some x) : mC s0 D cB cI cJ cD am a1 a2 a3 yX12_fault cX12_fault 2 (some .int) 0 0 [.int x1] F G tp w oc (some (.int x.1)) x.2 G tp w oc := by
  intro hi hm nx Q hW hQ0
  have hQ : ∀ r : Int32 × (Nat → Int32), x = r → ∀ hm', mW cB cI am a1 a2 a3 r.2 G tp w oc hm' → mFr am a1 a2 a3 hm hm' → Q (some (.int r.1)) hi hm' nx := fun r hr => by subst hr; exact hQ0
  have hFr : mFr am a1 a2 a3 hm hm := mFr.rf
  clear hQ0
  refine zM_of (by decide +kernel) (Nat.le_of_ble_eq_true rfl) ?_
  unfold mfault at h
  refine zV_eq (lo2 := [(0, .ref am), (1, .int x1)]) rfl rfl rfl rfl ?_
  refine zV_blk (pc' := 2) (lo' := [(0, .ref am), (1, .int x1)]) (st' := [.int 0, .ref am]) [.aload_n 0, .iconst 0] (by decide +kernel) rfl ?_
  refine m_put (idx := 25) (k := 0) (v := .int 0) (F' := (upd F 0 0)) (G' := G) hW m_in12 (by decide) (zT_mem 1440 (by decide +kernel) rfl) rfl rfl rfl rfl (by decide +kernel) (fun hm hW hFr2 => ?_)
  replace hFr := hFr.tr hFr2; clear hFr2
  refine zV_blk (pc' := 6) (lo' := [(0, .ref am), (1, .int x1)]) (st' := [.int x1]) [.iload_n 1] (by decide +kernel) rfl ?_
  refine zV_if_ne (tgt := 16) (off := 10) (by decide +kernel) (by decide) (fun q => ?_) (fun q => ?_)
  · replace h := zif_neg q h
    clear q
    refine zV_blk (pc' := 18) (lo' := [(0, .ref am), (1, .int x1)]) (st' := [.int 1, .int x1]) [.iload_n 1, .iconst 1] (by decide +kernel) rfl ?_
    refine zV_icmp_ne (tgt := 28) (off := 10) (by decide +kernel) (by decide) (fun q => ?_) (fun q => ?_)
    · replace h := zif_neg q h
      clear q
      refine zV_blk (pc' := 29) (lo' := [(0, .ref am), (1, .int x1)]) (st' := [.int (-1)]) [.iconst (-1)] (by decide +kernel) rfl ?_
      obtain rfl := Option.some.inj h
      exact zV_iret rfl (by decide +kernel) (hQ _ rfl hm hW hFr)
    · replace h := zif_pos q h
      clear q
      refine zV_blk (pc' := 22) (lo' := [(0, .ref am), (1, .int x1)]) (st' := [.ref am]) [.aload_n 0] (by decide +kernel) rfl ?_
      refine m_get (idx := 13) (k := 9) (v := .int ((upd F 0 0) 9)) hW m_in12 (by decide) (zT_mem 1449 (by decide +kernel) rfl) rfl (by decide +kernel) ?_
      refine zV_goto (tgt := 29) (off := 4) (by decide +kernel) (by decide) ?_
      obtain rfl := Option.some.inj h
      exact zV_iret rfl (by decide +kernel) (hQ _ rfl hm hW hFr)
  · replace h := zif_pos q h
    clear q
    refine zV_blk (pc' := 10) (lo' := [(0, .ref am), (1, .int x1)]) (st' := [.ref am]) [.aload_n 0] (by decide +kernel) rfl ?_
    refine m_get (idx := 220) (k := 8) (v := .int ((upd F 0 0) 8)) hW m_in12 (by decide) (zT_mem 1448 (by decide +kernel) rfl) rfl (by decide +kernel) ?_
    refine zV_goto (tgt := 29) (off := 16) (by decide +kernel) (by decide) ?_
    obtain rfl := Option.some.inj h
    exact zV_iret rfl (by decide +kernel) (hQ _ rfl hm hW hFr)

