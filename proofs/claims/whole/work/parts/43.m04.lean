def mevenRead_51 (n : Nat) (F : Nat → Int32) (tp : Nat → Int32) (w : Nat → Int32) : Option ((Nat → Int32) × (Nat → Int32)) := (mlays F w 3 1).bind (fun v1 => zck (zin (2662) 35802) ((mlays F v1 8 (v1 (2662 : Int32).toNatClampNeg)).bind (fun v2 => some (F, v2))))
set_option maxHeartbeats 4000000 in
set_option maxRecDepth 100000 in
theorem cmevenRead_51 (s0 : State) (D : va_G) (cB cI cJ cD : ClassId) (am a1 a2 a3 : Nat) (F : Nat → Int32) (G : Nat → Int64) (tp w oc : Nat → Int32) (n : Nat) {hi hm : zHp} {nx : Nat} {Q : Option Value → zHp → zHp → Nat → Prop} {hm0 : zHp} {x : (Nat → Int32) × (Nat → Int32)} (hW : mW cB cI am a1 a2 a3 F G tp w oc hm) (hFr : mFr am a1 a2 a3 hm0 hm) (h : mevenRead_51 n F tp w = some x) (hQ : ∀ r : (Nat → Int32) × (Nat → Int32), x = r → ∀ hm', mW cB cI am a1 a2 a3 r.1 G tp r.2 oc hm' → mFr am a1 a2 a3 hm0 hm' → Q none hi hm' nx) : zV s0 D (zty cB cI cJ cD) yX12_evenRead cX12_evenRead 1 none 6 142 0 0 51 [(0, .ref am)] [] hi hm nx Q := by
  unfold mevenRead_51 at h
  refine zV_blk (pc' := 54) (lo' := [(0, .ref am)]) (st' := [.int 1, .int 3, .ref am]) [.aload_n 0, .iconst 3, .iconst 1] (by decide +kernel) rfl ?_
  obtain ⟨v1, hv1, h⟩ := zbind h
  refine m_cC (idx := 135) (rest := []) hW (cmlays s0 D cB cI cJ cD am a1 a2 a3 F G tp w oc 3 1 v1 hv1) oX12_lays rfl (zT_mem 1603 (by decide +kernel) rfl) (zT_mem 1605 (by decide +kernel) rfl) (zT_mem 35 (by decide +kernel) rfl) rfl rfl (Nat.le_of_ble_eq_true rfl) ⟨by decide, by decide⟩ (by decide +kernel) (fun hm hW hFr2 => ?_)
  replace hFr := hFr.tr hFr2; clear hFr2
  refine zV_eq (st2 := []) rfl rfl rfl rfl ?_
  refine zV_blk (pc' := 61) (lo' := [(0, .ref am)]) (st' := [.ref am, .int 8, .ref am]) [.aload_n 0, .bipush 8, .aload_n 0] (by decide +kernel) rfl ?_
  refine m_get (idx := 18) (k := 12) (v := .ref a2) hW m_in12 (by decide) (zT_mem 1452 (by decide +kernel) rfl) rfl (by decide +kernel) ?_
  refine zV_blk (pc' := 67) (lo' := [(0, .ref am)]) (st' := [.int 2662, .ref a2, .int 8, .ref am]) [.sipush 2662] (by decide +kernel) rfl ?_
  obtain ⟨hz, h⟩ := zck_some h
  refine m_wld hW hz (by decide +kernel) ?_
  obtain ⟨v2, hv2, h⟩ := zbind h
  refine m_cC (idx := 135) (rest := []) hW (cmlays s0 D cB cI cJ cD am a1 a2 a3 F G tp v1 oc 8 (v1 (2662 : Int32).toNatClampNeg) v2 hv2) oX12_lays rfl (zT_mem 1603 (by decide +kernel) rfl) (zT_mem 1605 (by decide +kernel) rfl) (zT_mem 35 (by decide +kernel) rfl) rfl rfl (Nat.le_of_ble_eq_true rfl) ⟨by decide, by decide⟩ (by decide +kernel) (fun hm hW hFr2 => ?_)
  replace hFr := hFr.tr hFr2; clear hFr2
  refine zV_eq (st2 := []) rfl rfl rfl rfl ?_
  obtain rfl := Option.some.inj h
  exact zV_vret rfl (by decide +kernel) (hQ _ rfl hm hW hFr)
def mevenRead (n : Nat) (F : Nat → Int32) (tp : Nat → Int32) (w : Nat → Int32) : Option ((Nat → Int32) × (Nat → Int32)) := (monce n F tp 2 186542).bind (fun v1 => (mshares n v1 tp w 9 10 1000 0).bind (fun v2 => (mtakes n v2.1 tp 20194516).bind (fun v3 => (if v3.1 = true then zck (zin (2662) 35802) ((mreads n v3.2 tp 0 ((v2.2 (2662 : Int32).toNatClampNeg) - 1)).bind (fun v4 => (mlays v4.2 v2.2 11 v4.1).bind (fun v5 => (mevenRead_51 n v4.2 tp v5)))) else (mevenRead_51 n v3.2 tp v2.2)))))
theorem oX12_evenRead : zO yX12_evenRead cX12_evenRead 1 none 0 := ⟨zT_mem 1612 (by decide +kernel) rfl, zT_mem 94 (by decide +kernel) rfl, by decide +kernel, by decide +kernel, by decide +kernel⟩
set_option maxHeartbeats 4000000 in
set_option maxRecDepth 100000 in
theorem cmevenRead (s0 : State) (D : va_G) (cB cI cJ cD : ClassId) (am a1 a2 a3 : Nat) (F : Nat → Int32) (G : Nat → Int64) (tp w oc : Nat → Int32) (n : Nat) (x : (Nat → Int32) × (Nat → Int32)) (h : mevenRead n F tp w = some x) : mC s0 D cB cI cJ cD am a1 a2 a3 yX12_evenRead cX12_evenRead 1 none 6 142 [] F G tp w oc none x.1 G tp x.2 oc := by
  intro hi hm nx Q hW hQ0
  have hQ : ∀ r : (Nat → Int32) × (Nat → Int32), x = r → ∀ hm', mW cB cI am a1 a2 a3 r.1 G tp r.2 oc hm' → mFr am a1 a2 a3 hm hm' → Q none hi hm' nx := fun r hr => by subst hr; exact hQ0
  have hFr : mFr am a1 a2 a3 hm hm := mFr.rf
  clear hQ0
  refine zM_of (by decide +kernel) (Nat.le_of_ble_eq_true rfl) ?_
  unfold mevenRead at h
  refine zV_eq (lo2 := [(0, .ref am)]) rfl rfl rfl rfl ?_
  refine zV_blk (pc' := 2) (lo' := [(0, .ref am)]) (st' := [.int 2, .ref am]) [.aload_n 0, .iconst 2] (by decide +kernel) rfl ?_
  refine zV_ldc2 (idx := 138) (v := 186542) (zT_mem 1608 (by decide +kernel) rfl) (by decide +kernel) ?_
  obtain ⟨v1, hv1, h⟩ := zbind h
  refine m_cC (idx := 140) (rest := []) hW (cmonce s0 D cB cI cJ cD am a1 a2 a3 F G tp w oc n 2 186542 v1 hv1) oX12_once rfl (zT_mem 1577 (by decide +kernel) rfl) (zT_mem 1579 (by decide +kernel) rfl) (zT_mem 29 (by decide +kernel) rfl) rfl rfl (Nat.le_of_ble_eq_true rfl) ⟨by decide, by decide⟩ (by decide +kernel) (fun hm hW hFr2 => ?_)
  replace hFr := hFr.tr hFr2; clear hFr2
  refine zV_eq (st2 := []) rfl rfl rfl rfl ?_
  refine zV_blk (pc' := 17) (lo' := [(0, .ref am)]) (st' := [.int 0, .int 1000, .int 10, .int 9, .ref am]) [.aload_n 0, .bipush 9, .bipush 10, .sipush 1000, .iconst 0] (by decide +kernel) rfl ?_
  obtain ⟨v2, hv2, h⟩ := zbind h
  refine m_cC (idx := 144) (rest := []) hW (cmshares s0 D cB cI cJ cD am a1 a2 a3 v1 G tp w oc n 9 10 1000 0 v2 hv2) oX12_shares rfl (zT_mem 1613 (by decide +kernel) rfl) (zT_mem 1615 (by decide +kernel) rfl) (zT_mem 37 (by decide +kernel) rfl) rfl rfl (Nat.le_of_ble_eq_true rfl) ⟨by decide, by decide⟩ (by decide +kernel) (fun hm hW hFr2 => ?_)
  replace hFr := hFr.tr hFr2; clear hFr2
  refine zV_eq (st2 := []) rfl rfl rfl rfl ?_
  refine zV_blk (pc' := 21) (lo' := [(0, .ref am)]) (st' := [.ref am]) [.aload_n 0] (by decide +kernel) rfl ?_
  refine zV_ldc2 (idx := 148) (v := 20194516) (zT_mem 1622 (by decide +kernel) rfl) (by decide +kernel) ?_
  obtain ⟨v3, hv3, h⟩ := zbind h
  refine m_cC (idx := 104) (rest := []) hW (cmtakes s0 D cB cI cJ cD am a1 a2 a3 v2.1 G tp v2.2 oc n 20194516 v3 hv3) oX12_takes rfl (zT_mem 1585 (by decide +kernel) rfl) (zT_mem 1587 (by decide +kernel) rfl) (zT_mem 31 (by decide +kernel) rfl) rfl rfl (Nat.le_of_ble_eq_true rfl) ⟨by decide, by decide⟩ (by decide +kernel) (fun hm hW hFr2 => ?_)
  replace hFr := hFr.tr hFr2; clear hFr2
  refine zV_eq (st2 := [.int (zb v3.1)]) rfl rfl rfl rfl ?_
  refine zV_bif_eq (tgt := 51) (off := 24) (by decide +kernel) (by decide) (fun q => ?_) (fun q => ?_)
  · replace h := zif_neg q h
    clear q
    refine zV_pick (lo2 := [(0, .ref am)]) [0] rfl ?_
    exact cmevenRead_51 s0 D cB cI cJ cD am a1 a2 a3 v3.2 G tp v2.2 oc n  hW hFr h hQ
  · replace h := zif_pos q h
    clear q
    refine zV_blk (pc' := 36) (lo' := [(0, .ref am)]) (st' := [.ref am, .int 0, .ref am, .int 11, .ref am]) [.aload_n 0, .bipush 11, .aload_n 0, .iconst 0, .aload_n 0] (by decide +kernel) rfl ?_
    refine m_get (idx := 18) (k := 12) (v := .ref a2) hW m_in12 (by decide) (zT_mem 1452 (by decide +kernel) rfl) rfl (by decide +kernel) ?_
    refine zV_blk (pc' := 42) (lo' := [(0, .ref am)]) (st' := [.int 2662, .ref a2, .int 0, .ref am, .int 11, .ref am]) [.sipush 2662] (by decide +kernel) rfl ?_
    obtain ⟨hz, h⟩ := zck_some h
    refine m_wld hW hz (by decide +kernel) ?_
    refine zV_blk (pc' := 45) (lo' := [(0, .ref am)]) (st' := [.int ((v2.2 (2662 : Int32).toNatClampNeg) - 1), .int 0, .ref am, .int 11, .ref am]) [.iconst 1, .isub] (by decide +kernel) rfl ?_
    obtain ⟨v4, hv4, h⟩ := zbind h
    refine m_cC (idx := 125) (rest := [.int 11, .ref am]) hW (cmreads s0 D cB cI cJ cD am a1 a2 a3 v3.2 G tp v2.2 oc n 0 ((v2.2 (2662 : Int32).toNatClampNeg) - 1) v4 hv4) oX12_reads rfl (zT_mem 1593 (by decide +kernel) rfl) (zT_mem 1595 (by decide +kernel) rfl) (zT_mem 33 (by decide +kernel) rfl) rfl rfl (Nat.le_of_ble_eq_true rfl) ⟨by decide, by decide⟩ (by decide +kernel) (fun hm hW hFr2 => ?_)
    replace hFr := hFr.tr hFr2; clear hFr2
    refine zV_eq (st2 := [.int v4.1, .int 11, .ref am]) rfl rfl rfl rfl ?_
    obtain ⟨v5, hv5, h⟩ := zbind h
    refine m_cC (idx := 135) (rest := []) hW (cmlays s0 D cB cI cJ cD am a1 a2 a3 v4.2 G tp v2.2 oc 11 v4.1 v5 hv5) oX12_lays rfl (zT_mem 1603 (by decide +kernel) rfl) (zT_mem 1605 (by decide +kernel) rfl) (zT_mem 35 (by decide +kernel) rfl) rfl rfl (Nat.le_of_ble_eq_true rfl) ⟨by decide, by decide⟩ (by decide +kernel) (fun hm hW hFr2 => ?_)
    replace hFr := hFr.tr hFr2; clear hFr2
    refine zV_eq (st2 := []) rfl rfl rfl rfl ?_
    refine zV_pick (lo2 := [(0, .ref am)]) [0] rfl ?_
    exact cmevenRead_51 s0 D cB cI cJ cD am a1 a2 a3 v4.2 G tp v5 oc n  hW hFr h hQ

def meveryRead_132 (n : Nat) (F : Nat → Int32) (tp : Nat → Int32) (w : Nat → Int32) (x1 : Int32) (x2 : Int32) : Option ((Nat → Int32) × (Nat → Int32)) := (mlays F w 17 x1).bind (fun v1 => (mlays F v1 3 2).bind (fun v2 => (mlays F v2 8 x2).bind (fun v3 => some (F, v3))))
set_option maxHeartbeats 4000000 in
set_option maxRecDepth 100000 in
theorem cmeveryRead_132 (s0 : State) (D : va_G) (cB cI cJ cD : ClassId) (am a1 a2 a3 : Nat) (F : Nat → Int32) (G : Nat → Int64) (tp w oc : Nat → Int32) (n : Nat) (x1 : Int32) (x2 : Int32) {hi hm : zHp} {nx : Nat} {Q : Option Value → zHp → zHp → Nat → Prop} {hm0 : zHp} {x : (Nat → Int32) × (Nat → Int32)} (hW : mW cB cI am a1 a2 a3 F G tp w oc hm) (hFr : mFr am a1 a2 a3 hm0 hm) (h : meveryRead_132 n F tp w x1 x2 = some x) (hQ : ∀ r : (Nat → Int32) × (Nat → Int32), x = r → ∀ hm', mW cB cI am a1 a2 a3 r.1 G tp r.2 oc hm' → mFr am a1 a2 a3 hm0 hm' → Q none hi hm' nx) : zV s0 D (zty cB cI cJ cD) yX12_everyRead cX12_everyRead 5 none 5 116 0 0 132 [(0, .ref am), (1, .int x1), (2, .int x2)] [] hi hm nx Q := by
  unfold meveryRead_132 at h
  refine zV_blk (pc' := 136) (lo' := [(0, .ref am), (1, .int x1), (2, .int x2)]) (st' := [.int x1, .int 17, .ref am]) [.aload_n 0, .bipush 17, .iload_n 1] (by decide +kernel) rfl ?_
  obtain ⟨v1, hv1, h⟩ := zbind h
  refine m_cC (idx := 135) (rest := []) hW (cmlays s0 D cB cI cJ cD am a1 a2 a3 F G tp w oc 17 x1 v1 hv1) oX12_lays rfl (zT_mem 1603 (by decide +kernel) rfl) (zT_mem 1605 (by decide +kernel) rfl) (zT_mem 35 (by decide +kernel) rfl) rfl rfl (Nat.le_of_ble_eq_true rfl) ⟨by decide, by decide⟩ (by decide +kernel) (fun hm hW hFr2 => ?_)
  replace hFr := hFr.tr hFr2; clear hFr2
  refine zV_eq (st2 := []) rfl rfl rfl rfl ?_
  refine zV_blk (pc' := 142) (lo' := [(0, .ref am), (1, .int x1), (2, .int x2)]) (st' := [.int 2, .int 3, .ref am]) [.aload_n 0, .iconst 3, .iconst 2] (by decide +kernel) rfl ?_
  obtain ⟨v2, hv2, h⟩ := zbind h
  refine m_cC (idx := 135) (rest := []) hW (cmlays s0 D cB cI cJ cD am a1 a2 a3 F G tp v1 oc 3 2 v2 hv2) oX12_lays rfl (zT_mem 1603 (by decide +kernel) rfl) (zT_mem 1605 (by decide +kernel) rfl) (zT_mem 35 (by decide +kernel) rfl) rfl rfl (Nat.le_of_ble_eq_true rfl) ⟨by decide, by decide⟩ (by decide +kernel) (fun hm hW hFr2 => ?_)
  replace hFr := hFr.tr hFr2; clear hFr2
  refine zV_eq (st2 := []) rfl rfl rfl rfl ?_
  refine zV_blk (pc' := 149) (lo' := [(0, .ref am), (1, .int x1), (2, .int x2)]) (st' := [.int x2, .int 8, .ref am]) [.aload_n 0, .bipush 8, .iload_n 2] (by decide +kernel) rfl ?_
  obtain ⟨v3, hv3, h⟩ := zbind h
  refine m_cC (idx := 135) (rest := []) hW (cmlays s0 D cB cI cJ cD am a1 a2 a3 F G tp v2 oc 8 x2 v3 hv3) oX12_lays rfl (zT_mem 1603 (by decide +kernel) rfl) (zT_mem 1605 (by decide +kernel) rfl) (zT_mem 35 (by decide +kernel) rfl) rfl rfl (Nat.le_of_ble_eq_true rfl) ⟨by decide, by decide⟩ (by decide +kernel) (fun hm hW hFr2 => ?_)
  replace hFr := hFr.tr hFr2; clear hFr2
  refine zV_eq (st2 := []) rfl rfl rfl rfl ?_
  obtain rfl := Option.some.inj h
  exact zV_vret rfl (by decide +kernel) (hQ _ rfl hm hW hFr)
def meveryRead_125 (n : Nat) (F : Nat → Int32) (tp : Nat → Int32) (w : Nat → Int32) (x1 : Int32) (x2 : Int32) (t1 : Int64) : Option ((Int32 × Int32 × Int32 × (Nat → Int32) × (Nat → Int32)) ⊕ ((Nat → Int32) × (Nat → Int32))) := (mtakes n F tp t1).bind (fun v1 => some (.inl (x1, x2, (zb v1.1), v1.2, w)))
set_option maxHeartbeats 4000000 in
set_option maxRecDepth 100000 in
theorem cmeveryRead_125 (s0 : State) (D : va_G) (cB cI cJ cD : ClassId) (am a1 a2 a3 : Nat) (F : Nat → Int32) (G : Nat → Int64) (tp w oc : Nat → Int32) (n : Nat) (x1 : Int32) (x2 : Int32) (t1 : Int64) {hi hm : zHp} {nx : Nat} {Q : Option Value → zHp → zHp → Nat → Prop} {hm0 : zHp} {x : (Int32 × Int32 × Int32 × (Nat → Int32) × (Nat → Int32)) ⊕ ((Nat → Int32) × (Nat → Int32))} (hW : mW cB cI am a1 a2 a3 F G tp w oc hm) (hFr : mFr am a1 a2 a3 hm0 hm) (h : meveryRead_125 n F tp w x1 x2 t1 = some x) (hL14 : ∀ s : Int32 × Int32 × Int32 × (Nat → Int32) × (Nat → Int32), x = (.inl s) → ∀ hm', mW cB cI am a1 a2 a3 s.2.2.2.1 G tp s.2.2.2.2 oc hm' → mFr am a1 a2 a3 hm0 hm' → zV s0 D (zty cB cI cJ cD) yX12_everyRead cX12_everyRead 5 none 5 116 0 0 14 [(0, .ref am), (1, .int s.1), (2, .int s.2.1), (3, .int s.2.2.1)] [] hi hm' nx Q) (hQ : ∀ r : (Nat → Int32) × (Nat → Int32), x = (.inr r) → ∀ hm', mW cB cI am a1 a2 a3 r.1 G tp r.2 oc hm' → mFr am a1 a2 a3 hm0 hm' → Q none hi hm' nx) : zV s0 D (zty cB cI cJ cD) yX12_everyRead cX12_everyRead 5 none 5 116 0 0 125 [(0, .ref am), (1, .int x1), (2, .int x2)] [.long t1, .ref am] hi hm nx Q := by
  unfold meveryRead_125 at h
  obtain ⟨v1, hv1, h⟩ := zbind h
  refine m_cC (idx := 104) (rest := []) hW (cmtakes s0 D cB cI cJ cD am a1 a2 a3 F G tp w oc n t1 v1 hv1) oX12_takes rfl (zT_mem 1585 (by decide +kernel) rfl) (zT_mem 1587 (by decide +kernel) rfl) (zT_mem 31 (by decide +kernel) rfl) rfl rfl (Nat.le_of_ble_eq_true rfl) ⟨by decide, by decide⟩ (by decide +kernel) (fun hm hW hFr2 => ?_)
  replace hFr := hFr.tr hFr2; clear hFr2
  refine zV_eq (st2 := [.int (zb v1.1)]) rfl rfl rfl rfl ?_
  refine zV_blk (pc' := 129) (lo' := [(3, .int (zb v1.1)), (0, .ref am), (1, .int x1), (2, .int x2)]) (st' := []) [.istore_n 3] (by decide +kernel) rfl ?_
  refine zV_goto (tgt := 14) (off := -115) (by decide +kernel) (by decide) ?_
  obtain rfl := Option.some.inj h
  refine zV_pick (lo2 := [(0, .ref am), (1, .int x1), (2, .int x2), (3, .int (zb v1.1))]) [1, 2, 3, 0] rfl ?_
  exact hL14 _ rfl hm hW hFr
def meveryRead_102 (n : Nat) (F : Nat → Int32) (tp : Nat → Int32) (w : Nat → Int32) (x1 : Int32) (x4 : Int32) : Option ((Int32 × Int32 × Int32 × (Nat → Int32) × (Nat → Int32)) ⊕ ((Nat → Int32) × (Nat → Int32))) := (if (((x1 + 1) - (x1 + 1) / 2 * 2) : Int32) = (1 : Int32) then (meveryRead_125 n F tp w (x1 + 1) x4 14836) else (meveryRead_125 n F tp w (x1 + 1) x4 2740))
set_option maxHeartbeats 4000000 in
set_option maxRecDepth 100000 in
theorem cmeveryRead_102 (s0 : State) (D : va_G) (cB cI cJ cD : ClassId) (am a1 a2 a3 : Nat) (F : Nat → Int32) (G : Nat → Int64) (tp w oc : Nat → Int32) (n : Nat) (x1 : Int32) (x4 : Int32) {hi hm : zHp} {nx : Nat} {Q : Option Value → zHp → zHp → Nat → Prop} {hm0 : zHp} {x : (Int32 × Int32 × Int32 × (Nat → Int32) × (Nat → Int32)) ⊕ ((Nat → Int32) × (Nat → Int32))} (hW : mW cB cI am a1 a2 a3 F G tp w oc hm) (hFr : mFr am a1 a2 a3 hm0 hm) (h : meveryRead_102 n F tp w x1 x4 = some x) (hL14 : ∀ s : Int32 × Int32 × Int32 × (Nat → Int32) × (Nat → Int32), x = (.inl s) → ∀ hm', mW cB cI am a1 a2 a3 s.2.2.2.1 G tp s.2.2.2.2 oc hm' → mFr am a1 a2 a3 hm0 hm' → zV s0 D (zty cB cI cJ cD) yX12_everyRead cX12_everyRead 5 none 5 116 0 0 14 [(0, .ref am), (1, .int s.1), (2, .int s.2.1), (3, .int s.2.2.1)] [] hi hm' nx Q) (hQ : ∀ r : (Nat → Int32) × (Nat → Int32), x = (.inr r) → ∀ hm', mW cB cI am a1 a2 a3 r.1 G tp r.2 oc hm' → mFr am a1 a2 a3 hm0 hm' → Q none hi hm' nx) : zV s0 D (zty cB cI cJ cD) yX12_everyRead cX12_everyRead 5 none 5 116 0 0 102 [(0, .ref am), (1, .int x1), (4, .int x4)] [] hi hm nx Q := by
  unfold meveryRead_102 at h
  refine zV_blk (pc' := 111) (lo' := [(1, .int (x1 + 1)), (2, .int x4), (0, .ref am), (4, .int x4)]) (st' := [.int 2, .int (x1 + 1), .ref am]) [.iload 4, .istore_n 2, .iinc 1 1, .aload_n 0, .iload_n 1, .iconst 2] (by decide +kernel) rfl ?_
  refine zV_irem (by decide +kernel) (by decide +kernel) ?_
  refine zV_blk (pc' := 113) (lo' := [(1, .int (x1 + 1)), (2, .int x4), (0, .ref am), (4, .int x4)]) (st' := [.int 1, .int ((x1 + 1) - (x1 + 1) / 2 * 2), .ref am]) [.iconst 1] (by decide +kernel) rfl ?_
  refine zV_icmp_ne (tgt := 122) (off := 9) (by decide +kernel) (by decide) (fun q => ?_) (fun q => ?_)
  · replace h := zif_neg q h
    clear q
    refine zV_ldc2 (idx := 154) (v := 2740) (zT_mem 1629 (by decide +kernel) rfl) (by decide +kernel) ?_
    refine zV_pick (lo2 := [(0, .ref am), (1, .int (x1 + 1)), (2, .int x4)]) [2, 0, 1] rfl ?_
    exact cmeveryRead_125 s0 D cB cI cJ cD am a1 a2 a3 F G tp w oc n (x1 + 1) x4 2740 hW hFr h hL14 hQ
  · replace h := zif_pos q h
    clear q
    refine zV_ldc2 (idx := 152) (v := 14836) (zT_mem 1628 (by decide +kernel) rfl) (by decide +kernel) ?_
    refine zV_goto (tgt := 125) (off := 6) (by decide +kernel) (by decide) ?_
    refine zV_pick (lo2 := [(0, .ref am), (1, .int (x1 + 1)), (2, .int x4)]) [2, 0, 1] rfl ?_
    exact cmeveryRead_125 s0 D cB cI cJ cD am a1 a2 a3 F G tp w oc n (x1 + 1) x4 14836 hW hFr h hL14 hQ
def meveryRead_83 (n : Nat) (F : Nat → Int32) (tp : Nat → Int32) (w : Nat → Int32) (x1 : Int32) (x4 : Int32) : Option ((Int32 × Int32 × Int32 × (Nat → Int32) × (Nat → Int32)) ⊕ ((Nat → Int32) × (Nat → Int32))) := (misFine F).bind (fun v1 => (if v1 = true then zck (zin ((2670 + x1)) 35802) ((meveryRead_102 n F tp (upd w ((2670 + x1) : Int32).toNatClampNeg x4) x1 x4)) else (meveryRead_102 n F tp w x1 x4)))
set_option maxHeartbeats 4000000 in
set_option maxRecDepth 100000 in
theorem cmeveryRead_83 (s0 : State) (D : va_G) (cB cI cJ cD : ClassId) (am a1 a2 a3 : Nat) (F : Nat → Int32) (G : Nat → Int64) (tp w oc : Nat → Int32) (n : Nat) (x1 : Int32) (x4 : Int32) {hi hm : zHp} {nx : Nat} {Q : Option Value → zHp → zHp → Nat → Prop} {hm0 : zHp} {x : (Int32 × Int32 × Int32 × (Nat → Int32) × (Nat → Int32)) ⊕ ((Nat → Int32) × (Nat → Int32))} (hW : mW cB cI am a1 a2 a3 F G tp w oc hm) (hFr : mFr am a1 a2 a3 hm0 hm) (h : meveryRead_83 n F tp w x1 x4 = some x) (hL14 : ∀ s : Int32 × Int32 × Int32 × (Nat → Int32) × (Nat → Int32), x = (.inl s) → ∀ hm', mW cB cI am a1 a2 a3 s.2.2.2.1 G tp s.2.2.2.2 oc hm' → mFr am a1 a2 a3 hm0 hm' → zV s0 D (zty cB cI cJ cD) yX12_everyRead cX12_everyRead 5 none 5 116 0 0 14 [(0, .ref am), (1, .int s.1), (2, .int s.2.1), (3, .int s.2.2.1)] [] hi hm' nx Q) (hQ : ∀ r : (Nat → Int32) × (Nat → Int32), x = (.inr r) → ∀ hm', mW cB cI am a1 a2 a3 r.1 G tp r.2 oc hm' → mFr am a1 a2 a3 hm0 hm' → Q none hi hm' nx) : zV s0 D (zty cB cI cJ cD) yX12_everyRead cX12_everyRead 5 none 5 116 0 0 83 [(0, .ref am), (1, .int x1), (4, .int x4)] [] hi hm nx Q := by
  unfold meveryRead_83 at h
  refine zV_blk (pc' := 84) (lo' := [(0, .ref am), (1, .int x1), (4, .int x4)]) (st' := [.ref am]) [.aload_n 0] (by decide +kernel) rfl ?_
  obtain ⟨v1, hv1, h⟩ := zbind h
  refine m_cR (idx := 86) (rest := []) hW (cmisFine s0 D cB cI cJ cD am a1 a2 a3 F G tp w oc  v1 hv1) oX12_isFine rfl (zT_mem 1547 (by decide +kernel) rfl) (zT_mem 1549 (by decide +kernel) rfl) (zT_mem 23 (by decide +kernel) rfl) rfl rfl (Nat.le_of_ble_eq_true rfl) ⟨by decide, by decide⟩ (by decide +kernel) ?_
  refine zV_eq (st2 := [.int (zb v1)]) rfl rfl rfl rfl ?_
  refine zV_bif_eq (tgt := 102) (off := 15) (by decide +kernel) (by decide) (fun q => ?_) (fun q => ?_)
  · replace h := zif_neg q h
    clear q
    refine zV_pick (lo2 := [(0, .ref am), (1, .int x1), (4, .int x4)]) [0, 1, 2] rfl ?_
    exact cmeveryRead_102 s0 D cB cI cJ cD am a1 a2 a3 F G tp w oc n x1 x4 hW hFr h hL14 hQ
  · replace h := zif_pos q h
    clear q
    refine zV_blk (pc' := 91) (lo' := [(0, .ref am), (1, .int x1), (4, .int x4)]) (st' := [.ref am]) [.aload_n 0] (by decide +kernel) rfl ?_
    refine m_get (idx := 18) (k := 12) (v := .ref a2) hW m_in12 (by decide) (zT_mem 1452 (by decide +kernel) rfl) rfl (by decide +kernel) ?_
    refine zV_blk (pc' := 101) (lo' := [(0, .ref am), (1, .int x1), (4, .int x4)]) (st' := [.int x4, .int (2670 + x1), .ref a2]) [.sipush 2670, .iload_n 1, .iadd, .iload 4] (by decide +kernel) rfl ?_
    obtain ⟨hz, h⟩ := zck_some h
    refine m_wst hW hz (by decide +kernel) (fun hm hW hFr2 => ?_)
    replace hFr := hFr.tr hFr2; clear hFr2
    refine zV_pick (lo2 := [(0, .ref am), (1, .int x1), (4, .int x4)]) [0, 1, 2] rfl ?_
    exact cmeveryRead_102 s0 D cB cI cJ cD am a1 a2 a3 F G tp (upd w ((2670 + x1) : Int32).toNatClampNeg x4) oc n x1 x4 hW hFr h hL14 hQ
def meveryRead_68 (n : Nat) (F : Nat → Int32) (tp : Nat → Int32) (w : Nat → Int32) (x1 : Int32) (x4 : Int32) : Option ((Int32 × Int32 × Int32 × (Nat → Int32) × (Nat → Int32)) ⊕ ((Nat → Int32) × (Nat → Int32))) := (if (x1 : Int32) = (6 : Int32) then (mfail F 4 (F 11)).bind (fun v1 => (meveryRead_83 n v1 tp w x1 x4)) else (meveryRead_83 n F tp w x1 x4))
set_option maxHeartbeats 4000000 in
set_option maxRecDepth 100000 in
theorem cmeveryRead_68 (s0 : State) (D : va_G) (cB cI cJ cD : ClassId) (am a1 a2 a3 : Nat) (F : Nat → Int32) (G : Nat → Int64) (tp w oc : Nat → Int32) (n : Nat) (x1 : Int32) (x4 : Int32) {hi hm : zHp} {nx : Nat} {Q : Option Value → zHp → zHp → Nat → Prop} {hm0 : zHp} {x : (Int32 × Int32 × Int32 × (Nat → Int32) × (Nat → Int32)) ⊕ ((Nat → Int32) × (Nat → Int32))} (hW : mW cB cI am a1 a2 a3 F G tp w oc hm) (hFr : mFr am a1 a2 a3 hm0 hm) (h : meveryRead_68 n F tp w x1 x4 = some x) (hL14 : ∀ s : Int32 × Int32 × Int32 × (Nat → Int32) × (Nat → Int32), x = (.inl s) → ∀ hm', mW cB cI am a1 a2 a3 s.2.2.2.1 G tp s.2.2.2.2 oc hm' → mFr am a1 a2 a3 hm0 hm' → zV s0 D (zty cB cI cJ cD) yX12_everyRead cX12_everyRead 5 none 5 116 0 0 14 [(0, .ref am), (1, .int s.1), (2, .int s.2.1), (3, .int s.2.2.1)] [] hi hm' nx Q) (hQ : ∀ r : (Nat → Int32) × (Nat → Int32), x = (.inr r) → ∀ hm', mW cB cI am a1 a2 a3 r.1 G tp r.2 oc hm' → mFr am a1 a2 a3 hm0 hm' → Q none hi hm' nx) : zV s0 D (zty cB cI cJ cD) yX12_everyRead cX12_everyRead 5 none 5 116 0 0 68 [(0, .ref am), (1, .int x1), (4, .int x4)] [] hi hm nx Q := by
  unfold meveryRead_68 at h
  refine zV_blk (pc' := 71) (lo' := [(0, .ref am), (1, .int x1), (4, .int x4)]) (st' := [.int 6, .int x1]) [.iload_n 1, .bipush 6] (by decide +kernel) rfl ?_
  refine zV_icmp_ne (tgt := 83) (off := 12) (by decide +kernel) (by decide) (fun q => ?_) (fun q => ?_)
  · replace h := zif_neg q h
    clear q
    refine zV_pick (lo2 := [(0, .ref am), (1, .int x1), (4, .int x4)]) [0, 1, 2] rfl ?_
    exact cmeveryRead_83 s0 D cB cI cJ cD am a1 a2 a3 F G tp w oc n x1 x4 hW hFr h hL14 hQ
  · replace h := zif_pos q h
    clear q
    refine zV_blk (pc' := 77) (lo' := [(0, .ref am), (1, .int x1), (4, .int x4)]) (st' := [.ref am, .int 4, .ref am]) [.aload_n 0, .iconst 4, .aload_n 0] (by decide +kernel) rfl ?_
    refine m_get (idx := 113) (k := 11) (v := .int (F 11)) hW m_in12 (by decide) (zT_mem 1451 (by decide +kernel) rfl) rfl (by decide +kernel) ?_
    obtain ⟨v1, hv1, h⟩ := zbind h
    refine m_cC (idx := 79) (rest := []) hW (cmfail s0 D cB cI cJ cD am a1 a2 a3 F G tp w oc 4 (F 11) v1 hv1) oX12_fail rfl (zT_mem 1581 (by decide +kernel) rfl) (zT_mem 1583 (by decide +kernel) rfl) (zT_mem 30 (by decide +kernel) rfl) rfl rfl (Nat.le_of_ble_eq_true rfl) ⟨by decide, by decide⟩ (by decide +kernel) (fun hm hW hFr2 => ?_)
    replace hFr := hFr.tr hFr2; clear hFr2
    refine zV_eq (st2 := []) rfl rfl rfl rfl ?_
    refine zV_pick (lo2 := [(0, .ref am), (1, .int x1), (4, .int x4)]) [0, 1, 2] rfl ?_
    exact cmeveryRead_83 s0 D cB cI cJ cD am a1 a2 a3 v1 G tp w oc n x1 x4 hW hFr h hL14 hQ
def meveryRead_59 (n : Nat) (F : Nat → Int32) (tp : Nat → Int32) (w : Nat → Int32) (x1 : Int32) (x4 : Int32) : Option ((Int32 × Int32 × Int32 × (Nat → Int32) × (Nat → Int32)) ⊕ ((Nat → Int32) × (Nat → Int32))) := (mfail F 2 (F 11)).bind (fun v1 => (meveryRead_68 n v1 tp w x1 x4))
set_option maxHeartbeats 4000000 in
set_option maxRecDepth 100000 in
theorem cmeveryRead_59 (s0 : State) (D : va_G) (cB cI cJ cD : ClassId) (am a1 a2 a3 : Nat) (F : Nat → Int32) (G : Nat → Int64) (tp w oc : Nat → Int32) (n : Nat) (x1 : Int32) (x4 : Int32) {hi hm : zHp} {nx : Nat} {Q : Option Value → zHp → zHp → Nat → Prop} {hm0 : zHp} {x : (Int32 × Int32 × Int32 × (Nat → Int32) × (Nat → Int32)) ⊕ ((Nat → Int32) × (Nat → Int32))} (hW : mW cB cI am a1 a2 a3 F G tp w oc hm) (hFr : mFr am a1 a2 a3 hm0 hm) (h : meveryRead_59 n F tp w x1 x4 = some x) (hL14 : ∀ s : Int32 × Int32 × Int32 × (Nat → Int32) × (Nat → Int32), x = (.inl s) → ∀ hm', mW cB cI am a1 a2 a3 s.2.2.2.1 G tp s.2.2.2.2 oc hm' → mFr am a1 a2 a3 hm0 hm' → zV s0 D (zty cB cI cJ cD) yX12_everyRead cX12_everyRead 5 none 5 116 0 0 14 [(0, .ref am), (1, .int s.1), (2, .int s.2.1), (3, .int s.2.2.1)] [] hi hm' nx Q) (hQ : ∀ r : (Nat → Int32) × (Nat → Int32), x = (.inr r) → ∀ hm', mW cB cI am a1 a2 a3 r.1 G tp r.2 oc hm' → mFr am a1 a2 a3 hm0 hm' → Q none hi hm' nx) : zV s0 D (zty cB cI cJ cD) yX12_everyRead cX12_everyRead 5 none 5 116 0 0 59 [(0, .ref am), (1, .int x1), (4, .int x4)] [] hi hm nx Q := by
  unfold meveryRead_59 at h
  refine zV_blk (pc' := 62) (lo' := [(0, .ref am), (1, .int x1), (4, .int x4)]) (st' := [.ref am, .int 2, .ref am]) [.aload_n 0, .iconst 2, .aload_n 0] (by decide +kernel) rfl ?_
  refine m_get (idx := 113) (k := 11) (v := .int (F 11)) hW m_in12 (by decide) (zT_mem 1451 (by decide +kernel) rfl) rfl (by decide +kernel) ?_
  obtain ⟨v1, hv1, h⟩ := zbind h
  refine m_cC (idx := 79) (rest := []) hW (cmfail s0 D cB cI cJ cD am a1 a2 a3 F G tp w oc 2 (F 11) v1 hv1) oX12_fail rfl (zT_mem 1581 (by decide +kernel) rfl) (zT_mem 1583 (by decide +kernel) rfl) (zT_mem 30 (by decide +kernel) rfl) rfl rfl (Nat.le_of_ble_eq_true rfl) ⟨by decide, by decide⟩ (by decide +kernel) (fun hm hW hFr2 => ?_)
  replace hFr := hFr.tr hFr2; clear hFr2
  refine zV_eq (st2 := []) rfl rfl rfl rfl ?_
  refine zV_pick (lo2 := [(0, .ref am), (1, .int x1), (4, .int x4)]) [0, 1, 2] rfl ?_
  exact cmeveryRead_68 s0 D cB cI cJ cD am a1 a2 a3 v1 G tp w oc n x1 x4 hW hFr h hL14 hQ
def meveryRead_14 (n : Nat) (tp : Nat → Int32) (s : Int32 × Int32 × Int32 × (Nat → Int32) × (Nat → Int32)) : Option ((Int32 × Int32 × Int32 × (Nat → Int32) × (Nat → Int32)) ⊕ ((Nat → Int32) × (Nat → Int32))) := (misFine s.2.2.2.1).bind (fun v1 => (if v1 = true then (if (s.2.2.1 : Int32) = (0 : Int32) then ((meveryRead_132 n s.2.2.2.1 tp s.2.2.2.2 s.1 s.2.1).map (fun z => .inr z)) else (mreads n s.2.2.2.1 tp 1 9999).bind (fun v4 => (misFine v4.2).bind (fun v5 => (if v5 = true then (if (s.1 : Int32) ≤ (0 : Int32) then (meveryRead_68 n v4.2 tp s.2.2.2.2 s.1 v4.1) else (if (v4.1 : Int32) ≤ (s.2.1 : Int32) then (meveryRead_59 n v4.2 tp s.2.2.2.2 s.1 v4.1) else zck (decide (¬ (s.2.1 : Int32) = 0)) ((if ((v4.1 - v4.1 / s.2.1 * s.2.1) : Int32) = (0 : Int32) then (meveryRead_68 n v4.2 tp s.2.2.2.2 s.1 v4.1) else (meveryRead_59 n v4.2 tp s.2.2.2.2 s.1 v4.1))))) else (meveryRead_68 n v4.2 tp s.2.2.2.2 s.1 v4.1))))) else ((meveryRead_132 n s.2.2.2.1 tp s.2.2.2.2 s.1 s.2.1).map (fun z => .inr z))))
set_option maxHeartbeats 4000000 in
set_option maxRecDepth 100000 in
theorem cmeveryRead_14 (s0 : State) (D : va_G) (cB cI cJ cD : ClassId) (am a1 a2 a3 : Nat) (G : Nat → Int64) (tp : Nat → Int32) (oc : Nat → Int32) (n : Nat) (s : Int32 × Int32 × Int32 × (Nat → Int32) × (Nat → Int32)) (x : (Int32 × Int32 × Int32 × (Nat → Int32) × (Nat → Int32)) ⊕ ((Nat → Int32) × (Nat → Int32))) {hi hm : zHp} {nx : Nat} {Q : Option Value → zHp → zHp → Nat → Prop} {hm0 : zHp} (hW : mW cB cI am a1 a2 a3 s.2.2.2.1 G tp s.2.2.2.2 oc hm) (hFr : mFr am a1 a2 a3 hm0 hm) (h : meveryRead_14 n tp s = some x) (hL14 : ∀ s : Int32 × Int32 × Int32 × (Nat → Int32) × (Nat → Int32), x = (.inl s) → ∀ hm', mW cB cI am a1 a2 a3 s.2.2.2.1 G tp s.2.2.2.2 oc hm' → mFr am a1 a2 a3 hm0 hm' → zV s0 D (zty cB cI cJ cD) yX12_everyRead cX12_everyRead 5 none 5 116 0 0 14 [(0, .ref am), (1, .int s.1), (2, .int s.2.1), (3, .int s.2.2.1)] [] hi hm' nx Q) (hQ : ∀ r : (Nat → Int32) × (Nat → Int32), x = (.inr r) → ∀ hm', mW cB cI am a1 a2 a3 r.1 G tp r.2 oc hm' → mFr am a1 a2 a3 hm0 hm' → Q none hi hm' nx) : zV s0 D (zty cB cI cJ cD) yX12_everyRead cX12_everyRead 5 none 5 116 0 0 14 [(0, .ref am), (1, .int s.1), (2, .int s.2.1), (3, .int s.2.2.1)] [] hi hm nx Q := by
  unfold meveryRead_14 at h
  refine zV_blk (pc' := 15) (lo' := [(0, .ref am), (1, .int s.1), (2, .int s.2.1), (3, .int s.2.2.1)]) (st' := [.ref am]) [.aload_n 0] (by decide +kernel) rfl ?_
  obtain ⟨v1, hv1, h⟩ := zbind h
  refine m_cR (idx := 86) (rest := []) hW (cmisFine s0 D cB cI cJ cD am a1 a2 a3 s.2.2.2.1 G tp s.2.2.2.2 oc  v1 hv1) oX12_isFine rfl (zT_mem 1547 (by decide +kernel) rfl) (zT_mem 1549 (by decide +kernel) rfl) (zT_mem 23 (by decide +kernel) rfl) rfl rfl (Nat.le_of_ble_eq_true rfl) ⟨by decide, by decide⟩ (by decide +kernel) ?_
  refine zV_eq (st2 := [.int (zb v1)]) rfl rfl rfl rfl ?_
  refine zV_bif_eq (tgt := 132) (off := 114) (by decide +kernel) (by decide) (fun q => ?_) (fun q => ?_)
  · replace h := zif_neg q h
    clear q
    obtain ⟨z2, h9, hx⟩ := zmap h
    clear h; subst hx; have h := h9; clear h9
    refine zV_pick (lo2 := [(0, .ref am), (1, .int s.1), (2, .int s.2.1)]) [0, 1, 2] rfl ?_
    exact cmeveryRead_132 s0 D cB cI cJ cD am a1 a2 a3 s.2.2.2.1 G tp s.2.2.2.2 oc n s.1 s.2.1 hW hFr h (fun r hr => hQ r (by rw [hr]))
  · replace h := zif_pos q h
    clear q
    refine zV_blk (pc' := 22) (lo' := [(0, .ref am), (1, .int s.1), (2, .int s.2.1), (3, .int s.2.2.1)]) (st' := [.int s.2.2.1]) [.iload_n 3] (by decide +kernel) rfl ?_
    refine zV_if_eq (tgt := 132) (off := 110) (by decide +kernel) (by decide) (fun q => ?_) (fun q => ?_)
    · replace h := zif_pos q h
      clear q
      obtain ⟨z3, h9, hx⟩ := zmap h
      clear h; subst hx; have h := h9; clear h9
      refine zV_pick (lo2 := [(0, .ref am), (1, .int s.1), (2, .int s.2.1)]) [0, 1, 2] rfl ?_
      exact cmeveryRead_132 s0 D cB cI cJ cD am a1 a2 a3 s.2.2.2.1 G tp s.2.2.2.2 oc n s.1 s.2.1 hW hFr h (fun r hr => hQ r (by rw [hr]))
    · replace h := zif_neg q h
      clear q
      refine zV_blk (pc' := 30) (lo' := [(0, .ref am), (1, .int s.1), (2, .int s.2.1), (3, .int s.2.2.1)]) (st' := [.int 9999, .int 1, .ref am]) [.aload_n 0, .iconst 1, .sipush 9999] (by decide +kernel) rfl ?_
      obtain ⟨v4, hv4, h⟩ := zbind h
      refine m_cC (idx := 125) (rest := []) hW (cmreads s0 D cB cI cJ cD am a1 a2 a3 s.2.2.2.1 G tp s.2.2.2.2 oc n 1 9999 v4 hv4) oX12_reads rfl (zT_mem 1593 (by decide +kernel) rfl) (zT_mem 1595 (by decide +kernel) rfl) (zT_mem 33 (by decide +kernel) rfl) rfl rfl (Nat.le_of_ble_eq_true rfl) ⟨by decide, by decide⟩ (by decide +kernel) (fun hm hW hFr2 => ?_)
      replace hFr := hFr.tr hFr2; clear hFr2
      refine zV_eq (st2 := [.int v4.1]) rfl rfl rfl rfl ?_
      refine zV_blk (pc' := 36) (lo' := [(4, .int v4.1), (0, .ref am), (1, .int s.1), (2, .int s.2.1), (3, .int s.2.2.1)]) (st' := [.ref am]) [.istore 4, .aload_n 0] (by decide +kernel) rfl ?_
      obtain ⟨v5, hv5, h⟩ := zbind h
      refine m_cR (idx := 86) (rest := []) hW (cmisFine s0 D cB cI cJ cD am a1 a2 a3 v4.2 G tp s.2.2.2.2 oc  v5 hv5) oX12_isFine rfl (zT_mem 1547 (by decide +kernel) rfl) (zT_mem 1549 (by decide +kernel) rfl) (zT_mem 23 (by decide +kernel) rfl) rfl rfl (Nat.le_of_ble_eq_true rfl) ⟨by decide, by decide⟩ (by decide +kernel) ?_
      refine zV_eq (st2 := [.int (zb v5)]) rfl rfl rfl rfl ?_
      refine zV_bif_eq (tgt := 68) (off := 29) (by decide +kernel) (by decide) (fun q => ?_) (fun q => ?_)
      · replace h := zif_neg q h
        clear q
        refine zV_pick (lo2 := [(0, .ref am), (1, .int s.1), (4, .int v4.1)]) [1, 2, 0] rfl ?_
        exact cmeveryRead_68 s0 D cB cI cJ cD am a1 a2 a3 v4.2 G tp s.2.2.2.2 oc n s.1 v4.1 hW hFr h hL14 hQ
      · replace h := zif_pos q h
        clear q
        refine zV_blk (pc' := 43) (lo' := [(4, .int v4.1), (0, .ref am), (1, .int s.1), (2, .int s.2.1), (3, .int s.2.2.1)]) (st' := [.int s.1]) [.iload_n 1] (by decide +kernel) rfl ?_
        refine zV_if_le (tgt := 68) (off := 25) (by decide +kernel) (by decide) (fun q => ?_) (fun q => ?_)
        · replace h := zif_pos q h
          clear q
          refine zV_pick (lo2 := [(0, .ref am), (1, .int s.1), (4, .int v4.1)]) [1, 2, 0] rfl ?_
          exact cmeveryRead_68 s0 D cB cI cJ cD am a1 a2 a3 v4.2 G tp s.2.2.2.2 oc n s.1 v4.1 hW hFr h hL14 hQ
        · replace h := zif_neg q h
          clear q
          refine zV_blk (pc' := 49) (lo' := [(4, .int v4.1), (0, .ref am), (1, .int s.1), (2, .int s.2.1), (3, .int s.2.2.1)]) (st' := [.int s.2.1, .int v4.1]) [.iload 4, .iload_n 2] (by decide +kernel) rfl ?_
          refine zV_icmp_le (tgt := 59) (off := 10) (by decide +kernel) (by decide) (fun q => ?_) (fun q => ?_)
          · replace h := zif_pos q h
            clear q
            refine zV_pick (lo2 := [(0, .ref am), (1, .int s.1), (4, .int v4.1)]) [1, 2, 0] rfl ?_
            exact cmeveryRead_59 s0 D cB cI cJ cD am a1 a2 a3 v4.2 G tp s.2.2.2.2 oc n s.1 v4.1 hW hFr h hL14 hQ
          · replace h := zif_neg q h
            clear q
            refine zV_blk (pc' := 55) (lo' := [(4, .int v4.1), (0, .ref am), (1, .int s.1), (2, .int s.2.1), (3, .int s.2.2.1)]) (st' := [.int s.2.1, .int v4.1]) [.iload 4, .iload_n 2] (by decide +kernel) rfl ?_
            obtain ⟨hz, h⟩ := zck_some h
            refine zV_irem (by decide +kernel) (of_decide_eq_true hz) ?_
            refine zV_if_eq (tgt := 68) (off := 12) (by decide +kernel) (by decide) (fun q => ?_) (fun q => ?_)
            · replace h := zif_pos q h
              clear q
              refine zV_pick (lo2 := [(0, .ref am), (1, .int s.1), (4, .int v4.1)]) [1, 2, 0] rfl ?_
              exact cmeveryRead_68 s0 D cB cI cJ cD am a1 a2 a3 v4.2 G tp s.2.2.2.2 oc n s.1 v4.1 hW hFr h hL14 hQ
            · replace h := zif_neg q h
              clear q
              refine zV_pick (lo2 := [(0, .ref am), (1, .int s.1), (4, .int v4.1)]) [1, 2, 0] rfl ?_
              exact cmeveryRead_59 s0 D cB cI cJ cD am a1 a2 a3 v4.2 G tp s.2.2.2.2 oc n s.1 v4.1 hW hFr h hL14 hQ
theorem cmeveryRead_14L (s0 : State) (D : va_G) (cB cI cJ cD : ClassId) (am a1 a2 a3 : Nat) (G : Nat → Int64) (tp : Nat → Int32) (oc : Nat → Int32) (n : Nat) : ∀ (k : Nat) (s : Int32 × Int32 × Int32 × (Nat → Int32) × (Nat → Int32)) {hi hm : zHp} {nx : Nat} {Q : Option Value → zHp → zHp → Nat → Prop} {hm0 : zHp} (_ : mW cB cI am a1 a2 a3 s.2.2.2.1 G tp s.2.2.2.2 oc hm) (_ : mFr am a1 a2 a3 hm0 hm) {x : (Nat → Int32) × (Nat → Int32)} (_ : zloop (meveryRead_14 n tp) k s = some x) (hQ : ∀ r : (Nat → Int32) × (Nat → Int32), x = r → ∀ hm', mW cB cI am a1 a2 a3 r.1 G tp r.2 oc hm' → mFr am a1 a2 a3 hm0 hm' → Q none hi hm' nx), zV s0 D (zty cB cI cJ cD) yX12_everyRead cX12_everyRead 5 none 5 116 0 0 14 [(0, .ref am), (1, .int s.1), (2, .int s.2.1), (3, .int s.2.2.1)] [] hi hm nx Q
  | 0, s, _, _, _, _, _, hW, hFr, _, h, _ => by cases h
  | k + 1, s, hi, hm, nx, Q, hm0, hW, hFr, x, h, hQ => by
    obtain ⟨z, hz, h1, h2⟩ := zloop_succ h
    exact cmeveryRead_14 s0 D cB cI cJ cD am a1 a2 a3 G tp oc n  s z hW hFr hz (fun s' hs hm' hW' hFr' => cmeveryRead_14L s0 D cB cI cJ cD am a1 a2 a3 G tp oc n  k s' hW' hFr' (h1 s' hs) hQ) (fun r hr hm' hW' hFr' => hQ r (h2 _ hr).symm hm' hW' hFr')
def meveryRead (n : Nat) (F : Nat → Int32) (tp : Nat → Int32) (w : Nat → Int32) : Option ((Nat → Int32) × (Nat → Int32)) := (monce n F tp 2 5969497).bind (fun v1 => (zloop (meveryRead_14 n tp) n (0, 1, 1, v1, w)))
theorem oX12_everyRead : zO yX12_everyRead cX12_everyRead 5 none 0 := ⟨zT_mem 1627 (by decide +kernel) rfl, zT_mem 94 (by decide +kernel) rfl, by decide +kernel, by decide +kernel, by decide +kernel⟩
set_option maxHeartbeats 4000000 in
set_option maxRecDepth 100000 in
theorem cmeveryRead (s0 : State) (D : va_G) (cB cI cJ cD : ClassId) (am a1 a2 a3 : Nat) (F : Nat → Int32) (G : Nat → Int64) (tp w oc : Nat → Int32) (n : Nat) (x : (Nat → Int32) × (Nat → Int32)) (h : meveryRead n F tp w = some x) : mC s0 D cB cI cJ cD am a1 a2 a3 yX12_everyRead cX12_everyRead 5 none 5 116 [] F G tp w oc none x.1 G tp x.2 oc := by
  intro hi hm nx Q hW hQ0
  have hQ : ∀ r : (Nat → Int32) × (Nat → Int32), x = r → ∀ hm', mW cB cI am a1 a2 a3 r.1 G tp r.2 oc hm' → mFr am a1 a2 a3 hm hm' → Q none hi hm' nx := fun r hr => by subst hr; exact hQ0
  have hFr : mFr am a1 a2 a3 hm hm := mFr.rf
  clear hQ0
  refine zM_of (by decide +kernel) (Nat.le_of_ble_eq_true rfl) ?_
  unfold meveryRead at h
  refine zV_eq (lo2 := [(0, .ref am)]) rfl rfl rfl rfl ?_
  refine zV_blk (pc' := 2) (lo' := [(0, .ref am)]) (st' := [.int 2, .ref am]) [.aload_n 0, .iconst 2] (by decide +kernel) rfl ?_
  refine zV_ldc2 (idx := 150) (v := 5969497) (zT_mem 1623 (by decide +kernel) rfl) (by decide +kernel) ?_
  obtain ⟨v1, hv1, h⟩ := zbind h
  refine m_cC (idx := 140) (rest := []) hW (cmonce s0 D cB cI cJ cD am a1 a2 a3 F G tp w oc n 2 5969497 v1 hv1) oX12_once rfl (zT_mem 1577 (by decide +kernel) rfl) (zT_mem 1579 (by decide +kernel) rfl) (zT_mem 29 (by decide +kernel) rfl) rfl rfl (Nat.le_of_ble_eq_true rfl) ⟨by decide, by decide⟩ (by decide +kernel) (fun hm hW hFr2 => ?_)
  replace hFr := hFr.tr hFr2; clear hFr2
  refine zV_eq (st2 := []) rfl rfl rfl rfl ?_
  refine zV_blk (pc' := 14) (lo' := [(3, .int 1), (2, .int 1), (1, .int 0), (0, .ref am)]) (st' := []) [.iconst 0, .istore_n 1, .iconst 1, .istore_n 2, .iconst 1, .istore_n 3] (by decide +kernel) rfl ?_
  refine zV_pick (lo2 := [(0, .ref am), (1, .int 0), (2, .int 1), (3, .int 1)]) [3, 2, 1, 0] rfl ?_
  exact cmeveryRead_14L s0 D cB cI cJ cD am a1 a2 a3 G tp oc n  n (0, 1, 1, v1, w) hW hFr h hQ

def mrowRead_79 (n : Nat) (F : Nat → Int32) (tp : Nat → Int32) (w : Nat → Int32) (x1 : Int32) : Option ((Nat → Int32) × (Nat → Int32)) := (mlays F w 3 3).bind (fun v1 => (mlays F v1 8 x1).bind (fun v2 => some (F, v2)))
set_option maxHeartbeats 4000000 in
set_option maxRecDepth 100000 in
theorem cmrowRead_79 (s0 : State) (D : va_G) (cB cI cJ cD : ClassId) (am a1 a2 a3 : Nat) (F : Nat → Int32) (G : Nat → Int64) (tp w oc : Nat → Int32) (n : Nat) (x1 : Int32) {hi hm : zHp} {nx : Nat} {Q : Option Value → zHp → zHp → Nat → Prop} {hm0 : zHp} {x : (Nat → Int32) × (Nat → Int32)} (hW : mW cB cI am a1 a2 a3 F G tp w oc hm) (hFr : mFr am a1 a2 a3 hm0 hm) (h : mrowRead_79 n F tp w x1 = some x) (hQ : ∀ r : (Nat → Int32) × (Nat → Int32), x = r → ∀ hm', mW cB cI am a1 a2 a3 r.1 G tp r.2 oc hm' → mFr am a1 a2 a3 hm0 hm' → Q none hi hm' nx) : zV s0 D (zty cB cI cJ cD) yX12_rowRead cX12_rowRead 4 none 5 116 0 0 79 [(0, .ref am), (1, .int x1)] [] hi hm nx Q := by
  unfold mrowRead_79 at h
  refine zV_blk (pc' := 82) (lo' := [(0, .ref am), (1, .int x1)]) (st' := [.int 3, .int 3, .ref am]) [.aload_n 0, .iconst 3, .iconst 3] (by decide +kernel) rfl ?_
  obtain ⟨v1, hv1, h⟩ := zbind h
  refine m_cC (idx := 135) (rest := []) hW (cmlays s0 D cB cI cJ cD am a1 a2 a3 F G tp w oc 3 3 v1 hv1) oX12_lays rfl (zT_mem 1603 (by decide +kernel) rfl) (zT_mem 1605 (by decide +kernel) rfl) (zT_mem 35 (by decide +kernel) rfl) rfl rfl (Nat.le_of_ble_eq_true rfl) ⟨by decide, by decide⟩ (by decide +kernel) (fun hm hW hFr2 => ?_)
  replace hFr := hFr.tr hFr2; clear hFr2
  refine zV_eq (st2 := []) rfl rfl rfl rfl ?_
  refine zV_blk (pc' := 89) (lo' := [(0, .ref am), (1, .int x1)]) (st' := [.int x1, .int 8, .ref am]) [.aload_n 0, .bipush 8, .iload_n 1] (by decide +kernel) rfl ?_
  obtain ⟨v2, hv2, h⟩ := zbind h
  refine m_cC (idx := 135) (rest := []) hW (cmlays s0 D cB cI cJ cD am a1 a2 a3 F G tp v1 oc 8 x1 v2 hv2) oX12_lays rfl (zT_mem 1603 (by decide +kernel) rfl) (zT_mem 1605 (by decide +kernel) rfl) (zT_mem 35 (by decide +kernel) rfl) rfl rfl (Nat.le_of_ble_eq_true rfl) ⟨by decide, by decide⟩ (by decide +kernel) (fun hm hW hFr2 => ?_)
  replace hFr := hFr.tr hFr2; clear hFr2
  refine zV_eq (st2 := []) rfl rfl rfl rfl ?_
  obtain rfl := Option.some.inj h
  exact zV_vret rfl (by decide +kernel) (hQ _ rfl hm hW hFr)
def mrowRead_63 (n : Nat) (F : Nat → Int32) (tp : Nat → Int32) (w : Nat → Int32) (x1 : Int32) (x3 : Int32) : Option ((Int32 × (Nat → Int32) × (Nat → Int32)) ⊕ ((Nat → Int32) × (Nat → Int32))) := (mlays F w ((40 + x3) + 1) 1).bind (fun v1 => some (.inl (x3, F, v1)))
set_option maxHeartbeats 4000000 in
set_option maxRecDepth 100000 in
theorem cmrowRead_63 (s0 : State) (D : va_G) (cB cI cJ cD : ClassId) (am a1 a2 a3 : Nat) (F : Nat → Int32) (G : Nat → Int64) (tp w oc : Nat → Int32) (n : Nat) (x1 : Int32) (x3 : Int32) {hi hm : zHp} {nx : Nat} {Q : Option Value → zHp → zHp → Nat → Prop} {hm0 : zHp} {x : (Int32 × (Nat → Int32) × (Nat → Int32)) ⊕ ((Nat → Int32) × (Nat → Int32))} (hW : mW cB cI am a1 a2 a3 F G tp w oc hm) (hFr : mFr am a1 a2 a3 hm0 hm) (h : mrowRead_63 n F tp w x1 x3 = some x) (hL19 : ∀ s : Int32 × (Nat → Int32) × (Nat → Int32), x = (.inl s) → ∀ hm', mW cB cI am a1 a2 a3 s.2.1 G tp s.2.2 oc hm' → mFr am a1 a2 a3 hm0 hm' → zV s0 D (zty cB cI cJ cD) yX12_rowRead cX12_rowRead 4 none 5 116 0 0 19 [(0, .ref am), (1, .int x1), (2, .int s.1)] [] hi hm' nx Q) (hQ : ∀ r : (Nat → Int32) × (Nat → Int32), x = (.inr r) → ∀ hm', mW cB cI am a1 a2 a3 r.1 G tp r.2 oc hm' → mFr am a1 a2 a3 hm0 hm' → Q none hi hm' nx) : zV s0 D (zty cB cI cJ cD) yX12_rowRead cX12_rowRead 4 none 5 116 0 0 63 [(0, .ref am), (1, .int x1), (3, .int x3)] [] hi hm nx Q := by
  unfold mrowRead_63 at h
  refine zV_blk (pc' := 73) (lo' := [(2, .int x3), (0, .ref am), (1, .int x1), (3, .int x3)]) (st' := [.int 1, .int ((40 + x3) + 1), .ref am]) [.iload_n 3, .istore_n 2, .aload_n 0, .bipush 40, .iload_n 3, .iadd, .iconst 1, .iadd, .iconst 1] (by decide +kernel) rfl ?_
  obtain ⟨v1, hv1, h⟩ := zbind h
  refine m_cC (idx := 135) (rest := []) hW (cmlays s0 D cB cI cJ cD am a1 a2 a3 F G tp w oc ((40 + x3) + 1) 1 v1 hv1) oX12_lays rfl (zT_mem 1603 (by decide +kernel) rfl) (zT_mem 1605 (by decide +kernel) rfl) (zT_mem 35 (by decide +kernel) rfl) rfl rfl (Nat.le_of_ble_eq_true rfl) ⟨by decide, by decide⟩ (by decide +kernel) (fun hm hW hFr2 => ?_)
  replace hFr := hFr.tr hFr2; clear hFr2
  refine zV_eq (st2 := []) rfl rfl rfl rfl ?_
  refine zV_goto (tgt := 19) (off := -57) (by decide +kernel) (by decide) ?_
  obtain rfl := Option.some.inj h
  refine zV_pick (lo2 := [(0, .ref am), (1, .int x1), (2, .int x3)]) [1, 2, 0] rfl ?_
  exact hL19 _ rfl hm hW hFr
def mrowRead_19 (n : Nat) (tp : Nat → Int32) (x1 : Int32) (s : Int32 × (Nat → Int32) × (Nat → Int32)) : Option ((Int32 × (Nat → Int32) × (Nat → Int32)) ⊕ ((Nat → Int32) × (Nat → Int32))) := (misFine s.2.1).bind (fun v1 => (if v1 = true then (mseesNumber n s.2.1 tp).bind (fun v3 => (if v3.1 = true then (mreads n v3.2 tp 0 (x1 - 1)).bind (fun v5 => (misFine v5.2).bind (fun v6 => (if v6 = true then (if (s.1 : Int32) < (v5.1 : Int32) then (mrowRead_63 n v5.2 tp s.2.2 x1 v5.1) else (mfail v5.2 2 (v5.2 11)).bind (fun v7 => (mrowRead_63 n v7 tp s.2.2 x1 v5.1))) else (mrowRead_63 n v5.2 tp s.2.2 x1 v5.1)))) else ((mrowRead_79 n v3.2 tp s.2.2 x1).map (fun z => .inr z)))) else ((mrowRead_79 n s.2.1 tp s.2.2 x1).map (fun z => .inr z))))
set_option maxHeartbeats 4000000 in
set_option maxRecDepth 100000 in
theorem cmrowRead_19 (s0 : State) (D : va_G) (cB cI cJ cD : ClassId) (am a1 a2 a3 : Nat) (G : Nat → Int64) (tp : Nat → Int32) (oc : Nat → Int32) (n : Nat) (x1 : Int32) (s : Int32 × (Nat → Int32) × (Nat → Int32)) (x : (Int32 × (Nat → Int32) × (Nat → Int32)) ⊕ ((Nat → Int32) × (Nat → Int32))) {hi hm : zHp} {nx : Nat} {Q : Option Value → zHp → zHp → Nat → Prop} {hm0 : zHp} (hW : mW cB cI am a1 a2 a3 s.2.1 G tp s.2.2 oc hm) (hFr : mFr am a1 a2 a3 hm0 hm) (h : mrowRead_19 n tp x1 s = some x) (hL19 : ∀ s : Int32 × (Nat → Int32) × (Nat → Int32), x = (.inl s) → ∀ hm', mW cB cI am a1 a2 a3 s.2.1 G tp s.2.2 oc hm' → mFr am a1 a2 a3 hm0 hm' → zV s0 D (zty cB cI cJ cD) yX12_rowRead cX12_rowRead 4 none 5 116 0 0 19 [(0, .ref am), (1, .int x1), (2, .int s.1)] [] hi hm' nx Q) (hQ : ∀ r : (Nat → Int32) × (Nat → Int32), x = (.inr r) → ∀ hm', mW cB cI am a1 a2 a3 r.1 G tp r.2 oc hm' → mFr am a1 a2 a3 hm0 hm' → Q none hi hm' nx) : zV s0 D (zty cB cI cJ cD) yX12_rowRead cX12_rowRead 4 none 5 116 0 0 19 [(0, .ref am), (1, .int x1), (2, .int s.1)] [] hi hm nx Q := by
  unfold mrowRead_19 at h
  refine zV_blk (pc' := 20) (lo' := [(0, .ref am), (1, .int x1), (2, .int s.1)]) (st' := [.ref am]) [.aload_n 0] (by decide +kernel) rfl ?_
  obtain ⟨v1, hv1, h⟩ := zbind h
  refine m_cR (idx := 86) (rest := []) hW (cmisFine s0 D cB cI cJ cD am a1 a2 a3 s.2.1 G tp s.2.2 oc  v1 hv1) oX12_isFine rfl (zT_mem 1547 (by decide +kernel) rfl) (zT_mem 1549 (by decide +kernel) rfl) (zT_mem 23 (by decide +kernel) rfl) rfl rfl (Nat.le_of_ble_eq_true rfl) ⟨by decide, by decide⟩ (by decide +kernel) ?_
  refine zV_eq (st2 := [.int (zb v1)]) rfl rfl rfl rfl ?_
  refine zV_bif_eq (tgt := 79) (off := 56) (by decide +kernel) (by decide) (fun q => ?_) (fun q => ?_)
  · replace h := zif_neg q h
    clear q
    obtain ⟨z2, h9, hx⟩ := zmap h
    clear h; subst hx; have h := h9; clear h9
    refine zV_pick (lo2 := [(0, .ref am), (1, .int x1)]) [0, 1] rfl ?_
    exact cmrowRead_79 s0 D cB cI cJ cD am a1 a2 a3 s.2.1 G tp s.2.2 oc n x1 hW hFr h (fun r hr => hQ r (by rw [hr]))
  · replace h := zif_pos q h
    clear q
    refine zV_blk (pc' := 27) (lo' := [(0, .ref am), (1, .int x1), (2, .int s.1)]) (st' := [.ref am]) [.aload_n 0] (by decide +kernel) rfl ?_
    obtain ⟨v3, hv3, h⟩ := zbind h
    refine m_cC (idx := 158) (rest := []) hW (cmseesNumber s0 D cB cI cJ cD am a1 a2 a3 s.2.1 G tp s.2.2 oc n  v3 hv3) oX12_seesNumber rfl (zT_mem 1635 (by decide +kernel) rfl) (zT_mem 1637 (by decide +kernel) rfl) (zT_mem 41 (by decide +kernel) rfl) rfl rfl (Nat.le_of_ble_eq_true rfl) ⟨by decide, by decide⟩ (by decide +kernel) (fun hm hW hFr2 => ?_)
    replace hFr := hFr.tr hFr2; clear hFr2
    refine zV_eq (st2 := [.int (zb v3.1)]) rfl rfl rfl rfl ?_
    refine zV_bif_eq (tgt := 79) (off := 49) (by decide +kernel) (by decide) (fun q => ?_) (fun q => ?_)
    · replace h := zif_neg q h
      clear q
      obtain ⟨z4, h9, hx⟩ := zmap h
      clear h; subst hx; have h := h9; clear h9
      refine zV_pick (lo2 := [(0, .ref am), (1, .int x1)]) [0, 1] rfl ?_
      exact cmrowRead_79 s0 D cB cI cJ cD am a1 a2 a3 v3.2 G tp s.2.2 oc n x1 hW hFr h (fun r hr => hQ r (by rw [hr]))
    · replace h := zif_pos q h
      clear q
      refine zV_blk (pc' := 38) (lo' := [(0, .ref am), (1, .int x1), (2, .int s.1)]) (st' := [.int (x1 - 1), .int 0, .ref am]) [.aload_n 0, .iconst 0, .iload_n 1, .iconst 1, .isub] (by decide +kernel) rfl ?_
      obtain ⟨v5, hv5, h⟩ := zbind h
      refine m_cC (idx := 125) (rest := []) hW (cmreads s0 D cB cI cJ cD am a1 a2 a3 v3.2 G tp s.2.2 oc n 0 (x1 - 1) v5 hv5) oX12_reads rfl (zT_mem 1593 (by decide +kernel) rfl) (zT_mem 1595 (by decide +kernel) rfl) (zT_mem 33 (by decide +kernel) rfl) rfl rfl (Nat.le_of_ble_eq_true rfl) ⟨by decide, by decide⟩ (by decide +kernel) (fun hm hW hFr2 => ?_)
      replace hFr := hFr.tr hFr2; clear hFr2
      refine zV_eq (st2 := [.int v5.1]) rfl rfl rfl rfl ?_
      refine zV_blk (pc' := 43) (lo' := [(3, .int v5.1), (0, .ref am), (1, .int x1), (2, .int s.1)]) (st' := [.ref am]) [.istore_n 3, .aload_n 0] (by decide +kernel) rfl ?_
      obtain ⟨v6, hv6, h⟩ := zbind h
      refine m_cR (idx := 86) (rest := []) hW (cmisFine s0 D cB cI cJ cD am a1 a2 a3 v5.2 G tp s.2.2 oc  v6 hv6) oX12_isFine rfl (zT_mem 1547 (by decide +kernel) rfl) (zT_mem 1549 (by decide +kernel) rfl) (zT_mem 23 (by decide +kernel) rfl) rfl rfl (Nat.le_of_ble_eq_true rfl) ⟨by decide, by decide⟩ (by decide +kernel) ?_
      refine zV_eq (st2 := [.int (zb v6)]) rfl rfl rfl rfl ?_
      refine zV_bif_eq (tgt := 63) (off := 17) (by decide +kernel) (by decide) (fun q => ?_) (fun q => ?_)
      · replace h := zif_neg q h
        clear q
        refine zV_pick (lo2 := [(0, .ref am), (1, .int x1), (3, .int v5.1)]) [1, 2, 0] rfl ?_
        exact cmrowRead_63 s0 D cB cI cJ cD am a1 a2 a3 v5.2 G tp s.2.2 oc n x1 v5.1 hW hFr h hL19 hQ
      · replace h := zif_pos q h
        clear q
        refine zV_blk (pc' := 51) (lo' := [(3, .int v5.1), (0, .ref am), (1, .int x1), (2, .int s.1)]) (st' := [.int s.1, .int v5.1]) [.iload_n 3, .iload_n 2] (by decide +kernel) rfl ?_
        refine zV_icmp_gt (tgt := 63) (off := 12) (by decide +kernel) (by decide) (fun q => ?_) (fun q => ?_)
        · replace h := zif_pos q h
          clear q
          refine zV_pick (lo2 := [(0, .ref am), (1, .int x1), (3, .int v5.1)]) [1, 2, 0] rfl ?_
          exact cmrowRead_63 s0 D cB cI cJ cD am a1 a2 a3 v5.2 G tp s.2.2 oc n x1 v5.1 hW hFr h hL19 hQ
        · replace h := zif_neg q h
          clear q
          refine zV_blk (pc' := 57) (lo' := [(3, .int v5.1), (0, .ref am), (1, .int x1), (2, .int s.1)]) (st' := [.ref am, .int 2, .ref am]) [.aload_n 0, .iconst 2, .aload_n 0] (by decide +kernel) rfl ?_
          refine m_get (idx := 113) (k := 11) (v := .int (v5.2 11)) hW m_in12 (by decide) (zT_mem 1451 (by decide +kernel) rfl) rfl (by decide +kernel) ?_
          obtain ⟨v7, hv7, h⟩ := zbind h
          refine m_cC (idx := 79) (rest := []) hW (cmfail s0 D cB cI cJ cD am a1 a2 a3 v5.2 G tp s.2.2 oc 2 (v5.2 11) v7 hv7) oX12_fail rfl (zT_mem 1581 (by decide +kernel) rfl) (zT_mem 1583 (by decide +kernel) rfl) (zT_mem 30 (by decide +kernel) rfl) rfl rfl (Nat.le_of_ble_eq_true rfl) ⟨by decide, by decide⟩ (by decide +kernel) (fun hm hW hFr2 => ?_)
          replace hFr := hFr.tr hFr2; clear hFr2
          refine zV_eq (st2 := []) rfl rfl rfl rfl ?_
          refine zV_pick (lo2 := [(0, .ref am), (1, .int x1), (3, .int v5.1)]) [1, 2, 0] rfl ?_
          exact cmrowRead_63 s0 D cB cI cJ cD am a1 a2 a3 v7 G tp s.2.2 oc n x1 v5.1 hW hFr h hL19 hQ
theorem cmrowRead_19L (s0 : State) (D : va_G) (cB cI cJ cD : ClassId) (am a1 a2 a3 : Nat) (G : Nat → Int64) (tp : Nat → Int32) (oc : Nat → Int32) (n : Nat) (x1 : Int32) : ∀ (k : Nat) (s : Int32 × (Nat → Int32) × (Nat → Int32)) {hi hm : zHp} {nx : Nat} {Q : Option Value → zHp → zHp → Nat → Prop} {hm0 : zHp} (_ : mW cB cI am a1 a2 a3 s.2.1 G tp s.2.2 oc hm) (_ : mFr am a1 a2 a3 hm0 hm) {x : (Nat → Int32) × (Nat → Int32)} (_ : zloop (mrowRead_19 n tp x1) k s = some x) (hQ : ∀ r : (Nat → Int32) × (Nat → Int32), x = r → ∀ hm', mW cB cI am a1 a2 a3 r.1 G tp r.2 oc hm' → mFr am a1 a2 a3 hm0 hm' → Q none hi hm' nx), zV s0 D (zty cB cI cJ cD) yX12_rowRead cX12_rowRead 4 none 5 116 0 0 19 [(0, .ref am), (1, .int x1), (2, .int s.1)] [] hi hm nx Q
  | 0, s, _, _, _, _, _, hW, hFr, _, h, _ => by cases h
  | k + 1, s, hi, hm, nx, Q, hm0, hW, hFr, x, h, hQ => by
    obtain ⟨z, hz, h1, h2⟩ := zloop_succ h
    exact cmrowRead_19 s0 D cB cI cJ cD am a1 a2 a3 G tp oc n x1 s z hW hFr hz (fun s' hs hm' hW' hFr' => cmrowRead_19L s0 D cB cI cJ cD am a1 a2 a3 G tp oc n x1 k s' hW' hFr' (h1 s' hs) hQ) (fun r hr hm' hW' hFr' => hQ r (h2 _ hr).symm hm' hW' hFr')
def mrowRead (n : Nat) (F : Nat → Int32) (tp : Nat → Int32) (w : Nat → Int32) : Option ((Nat → Int32) × (Nat → Int32)) := (monce n F tp 2 18935).bind (fun v1 => (mreads n v1 tp 1 400).bind (fun v2 => (zloop (mrowRead_19 n tp v2.1) n ((-1), v2.2, w))))
theorem oX12_rowRead : zO yX12_rowRead cX12_rowRead 4 none 0 := ⟨zT_mem 1634 (by decide +kernel) rfl, zT_mem 94 (by decide +kernel) rfl, by decide +kernel, by decide +kernel, by decide +kernel⟩
set_option maxHeartbeats 4000000 in
set_option maxRecDepth 100000 in
theorem cmrowRead (s0 : State) (D : va_G) (cB cI cJ cD : ClassId) (am a1 a2 a3 : Nat) (F : Nat → Int32) (G : Nat → Int64) (tp w oc : Nat → Int32) (n : Nat) (x : (Nat → Int32) × (Nat → Int32)) (h : mrowRead n F tp w = some x) : mC s0 D cB cI cJ cD am a1 a2 a3 yX12_rowRead cX12_rowRead 4 none 5 116 [] F G tp w oc none x.1 G tp x.2 oc := by
  intro hi hm nx Q hW hQ0
  have hQ : ∀ r : (Nat → Int32) × (Nat → Int32), x = r → ∀ hm', mW cB cI am a1 a2 a3 r.1 G tp r.2 oc hm' → mFr am a1 a2 a3 hm hm' → Q none hi hm' nx := fun r hr => by subst hr; exact hQ0
  have hFr : mFr am a1 a2 a3 hm hm := mFr.rf
  clear hQ0
  refine zM_of (by decide +kernel) (Nat.le_of_ble_eq_true rfl) ?_
  unfold mrowRead at h
  refine zV_eq (lo2 := [(0, .ref am)]) rfl rfl rfl rfl ?_
  refine zV_blk (pc' := 2) (lo' := [(0, .ref am)]) (st' := [.int 2, .ref am]) [.aload_n 0, .iconst 2] (by decide +kernel) rfl ?_
  refine zV_ldc2 (idx := 156) (v := 18935) (zT_mem 1630 (by decide +kernel) rfl) (by decide +kernel) ?_
  obtain ⟨v1, hv1, h⟩ := zbind h
  refine m_cC (idx := 140) (rest := []) hW (cmonce s0 D cB cI cJ cD am a1 a2 a3 F G tp w oc n 2 18935 v1 hv1) oX12_once rfl (zT_mem 1577 (by decide +kernel) rfl) (zT_mem 1579 (by decide +kernel) rfl) (zT_mem 29 (by decide +kernel) rfl) rfl rfl (Nat.le_of_ble_eq_true rfl) ⟨by decide, by decide⟩ (by decide +kernel) (fun hm hW hFr2 => ?_)
  replace hFr := hFr.tr hFr2; clear hFr2
  refine zV_eq (st2 := []) rfl rfl rfl rfl ?_
  refine zV_blk (pc' := 13) (lo' := [(0, .ref am)]) (st' := [.int 400, .int 1, .ref am]) [.aload_n 0, .iconst 1, .sipush 400] (by decide +kernel) rfl ?_
  obtain ⟨v2, hv2, h⟩ := zbind h
  refine m_cC (idx := 125) (rest := []) hW (cmreads s0 D cB cI cJ cD am a1 a2 a3 v1 G tp w oc n 1 400 v2 hv2) oX12_reads rfl (zT_mem 1593 (by decide +kernel) rfl) (zT_mem 1595 (by decide +kernel) rfl) (zT_mem 33 (by decide +kernel) rfl) rfl rfl (Nat.le_of_ble_eq_true rfl) ⟨by decide, by decide⟩ (by decide +kernel) (fun hm hW hFr2 => ?_)
  replace hFr := hFr.tr hFr2; clear hFr2
  refine zV_eq (st2 := [.int v2.1]) rfl rfl rfl rfl ?_
  refine zV_blk (pc' := 19) (lo' := [(2, .int (-1)), (1, .int v2.1), (0, .ref am)]) (st' := []) [.istore_n 1, .iconst (-1), .istore_n 2] (by decide +kernel) rfl ?_
  refine zV_pick (lo2 := [(0, .ref am), (1, .int v2.1), (2, .int (-1))]) [2, 1, 0] rfl ?_
  exact cmrowRead_19L s0 D cB cI cJ cD am a1 a2 a3 G tp oc n v2.1 n ((-1), v2.2, w) hW hFr h hQ

