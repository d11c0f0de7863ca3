def mmeetsGap_73 (F : Nat → Int32) (x1 : Int32) : Option ((Nat → Int32)) := some (upd F 17 x1)
set_option maxHeartbeats 4000000 in
set_option maxRecDepth 100000 in
theorem cmmeetsGap_73 (s0 : State) (D : va_G) (cB cI cJ cD : ClassId) (am a1 a2 a3 : Nat) (F : Nat → Int32) (G : Nat → Int64) (tp w oc : Nat → Int32) (x1 : Int32) {hi hm : zHp} {nx : Nat} {Q : Option Value → zHp → zHp → Nat → Prop} {hm0 : zHp} {x : (Nat → Int32)} (hW : mW cB cI am a1 a2 a3 F G tp w oc hm) (hFr : mFr am a1 a2 a3 hm0 hm) (h : mmeetsGap_73 F x1 = some x) (hQ : ∀ r : (Nat → Int32), x = r → ∀ hm', mW cB cI am a1 a2 a3 r G tp w oc hm' → mFr am a1 a2 a3 hm0 hm' → Q none hi hm' nx) : zV s0 D (zty cB cI cJ cD) yX12_meetsGap cX12_meetsGap 2 none 0 0 0 0 73 [(1, .int x1)] [.ref am] hi hm nx Q := by
  unfold mmeetsGap_73 at h
  refine zV_blk (pc' := 74) (lo' := [(1, .int x1)]) (st' := [.int x1, .ref am]) [.iload_n 1] (by decide +kernel) rfl ?_
  refine zV_goto (tgt := 81) (off := 7) (by decide +kernel) (by decide) ?_
  refine m_put (idx := 372) (k := 17) (v := .int x1) (F' := (upd F 17 x1)) (G' := G) hW m_in12 (by decide) (zT_mem 1457 (by decide +kernel) rfl) rfl rfl rfl rfl (by decide +kernel) (fun hm hW hFr2 => ?_)
  replace hFr := hFr.tr hFr2; clear hFr2
  obtain rfl := Option.some.inj h
  exact zV_vret rfl (by decide +kernel) (hQ _ rfl hm hW hFr)
def mmeetsGap_54 (F : Nat → Int32) (x1 : Int32) (t1 : Int32) : Option ((Nat → Int32)) := (if (((upd F 18 t1) 17) : Int32) = (0 : Int32) then (mmeetsGap_73 (upd F 18 t1) x1) else (if (((upd F 18 t1) 17) : Int32) ≤ (x1 : Int32) then some (upd (upd F 18 t1) 17 ((upd F 18 t1) 17)) else (mmeetsGap_73 (upd F 18 t1) x1)))
set_option maxHeartbeats 4000000 in
set_option maxRecDepth 100000 in
theorem cmmeetsGap_54 (s0 : State) (D : va_G) (cB cI cJ cD : ClassId) (am a1 a2 a3 : Nat) (F : Nat → Int32) (G : Nat → Int64) (tp w oc : Nat → Int32) (x1 : Int32) (t1 : Int32) {hi hm : zHp} {nx : Nat} {Q : Option Value → zHp → zHp → Nat → Prop} {hm0 : zHp} {x : (Nat → Int32)} (hW : mW cB cI am a1 a2 a3 F G tp w oc hm) (hFr : mFr am a1 a2 a3 hm0 hm) (h : mmeetsGap_54 F x1 t1 = some x) (hQ : ∀ r : (Nat → Int32), x = r → ∀ hm', mW cB cI am a1 a2 a3 r G tp w oc hm' → mFr am a1 a2 a3 hm0 hm' → Q none hi hm' nx) : zV s0 D (zty cB cI cJ cD) yX12_meetsGap cX12_meetsGap 2 none 0 0 0 0 54 [(0, .ref am), (1, .int x1)] [.int t1, .ref am] hi hm nx Q := by
  unfold mmeetsGap_54 at h
  refine m_put (idx := 366) (k := 18) (v := .int t1) (F' := (upd F 18 t1)) (G' := G) hW m_in12 (by decide) (zT_mem 1458 (by decide +kernel) rfl) rfl rfl rfl rfl (by decide +kernel) (fun hm hW hFr2 => ?_)
  replace hFr := hFr.tr hFr2; clear hFr2
  refine zV_blk (pc' := 59) (lo' := [(0, .ref am), (1, .int x1)]) (st' := [.ref am, .ref am]) [.aload_n 0, .aload_n 0] (by decide +kernel) rfl ?_
  refine m_get (idx := 372) (k := 17) (v := .int ((upd F 18 t1) 17)) hW m_in12 (by decide) (zT_mem 1457 (by decide +kernel) rfl) rfl (by decide +kernel) ?_
  refine zV_if_eq (tgt := 73) (off := 11) (by decide +kernel) (by decide) (fun q => ?_) (fun q => ?_)
  · replace h := zif_pos q h
    clear q
    refine zV_pick (lo2 := [(1, .int x1)]) [1] rfl ?_
    exact cmmeetsGap_73 s0 D cB cI cJ cD am a1 a2 a3 (upd F 18 t1) G tp w oc x1 hW hFr h hQ
  · replace h := zif_neg q h
    clear q
    refine zV_blk (pc' := 67) (lo' := [(0, .ref am), (1, .int x1)]) (st' := [.ref am, .int x1, .ref am]) [.iload_n 1, .aload_n 0] (by decide +kernel) rfl ?_
    refine m_get (idx := 372) (k := 17) (v := .int ((upd F 18 t1) 17)) hW m_in12 (by decide) (zT_mem 1457 (by decide +kernel) rfl) rfl (by decide +kernel) ?_
    refine zV_icmp_ge (tgt := 77) (off := 7) (by decide +kernel) (by decide) (fun q => ?_) (fun q => ?_)
    · replace h := zif_pos q h
      clear q
      refine zV_blk (pc' := 78) (lo' := [(0, .ref am), (1, .int x1)]) (st' := [.ref am, .ref am]) [.aload_n 0] (by decide +kernel) rfl ?_
      refine m_get (idx := 372) (k := 17) (v := .int ((upd F 18 t1) 17)) hW m_in12 (by decide) (zT_mem 1457 (by decide +kernel) rfl) rfl (by decide +kernel) ?_
      refine m_put (idx := 372) (k := 17) (v := .int ((upd F 18 t1) 17)) (F' := (upd (upd F 18 t1) 17 ((upd F 18 t1) 17))) (G' := G) hW m_in12 (by decide) (zT_mem 1457 (by decide +kernel) rfl) rfl rfl rfl rfl (by decide +kernel) (fun hm hW hFr2 => ?_)
      replace hFr := hFr.tr hFr2; clear hFr2
      obtain rfl := Option.some.inj h
      exact zV_vret rfl (by decide +kernel) (hQ _ rfl hm hW hFr)
    · replace h := zif_neg q h
      clear q
      refine zV_pick (lo2 := [(1, .int x1)]) [1] rfl ?_
      exact cmmeetsGap_73 s0 D cB cI cJ cD am a1 a2 a3 (upd F 18 t1) G tp w oc x1 hW hFr h hQ
def mmeetsGap_34 (F : Nat → Int32) (x1 : Int32) (t1 : Int32) : Option ((Nat → Int32)) := (if (x1 : Int32) ≤ (((upd F 19 t1) 18) : Int32) then (mmeetsGap_54 (upd F 19 t1) x1 ((upd F 19 t1) 18)) else (mmeetsGap_54 (upd F 19 t1) x1 x1))
set_option maxHeartbeats 4000000 in
set_option maxRecDepth 100000 in
theorem cmmeetsGap_34 (s0 : State) (D : va_G) (cB cI cJ cD : ClassId) (am a1 a2 a3 : Nat) (F : Nat → Int32) (G : Nat → Int64) (tp w oc : Nat → Int32) (x1 : Int32) (t1 : Int32) {hi hm : zHp} {nx : Nat} {Q : Option Value → zHp → zHp → Nat → Prop} {hm0 : zHp} {x : (Nat → Int32)} (hW : mW cB cI am a1 a2 a3 F G tp w oc hm) (hFr : mFr am a1 a2 a3 hm0 hm) (h : mmeetsGap_34 F x1 t1 = some x) (hQ : ∀ r : (Nat → Int32), x = r → ∀ hm', mW cB cI am a1 a2 a3 r G tp w oc hm' → mFr am a1 a2 a3 hm0 hm' → Q none hi hm' nx) : zV s0 D (zty cB cI cJ cD) yX12_meetsGap cX12_meetsGap 2 none 0 0 0 0 34 [(0, .ref am), (1, .int x1)] [.int t1, .ref am] hi hm nx Q := by
  unfold mmeetsGap_34 at h
  refine m_put (idx := 369) (k := 19) (v := .int t1) (F' := (upd F 19 t1)) (G' := G) hW m_in12 (by decide) (zT_mem 1459 (by decide +kernel) rfl) rfl rfl rfl rfl (by decide +kernel) (fun hm hW hFr2 => ?_)
  replace hFr := hFr.tr hFr2; clear hFr2
  refine zV_blk (pc' := 40) (lo' := [(0, .ref am), (1, .int x1)]) (st' := [.ref am, .int x1, .ref am]) [.aload_n 0, .iload_n 1, .aload_n 0] (by decide +kernel) rfl ?_
  refine m_get (idx := 366) (k := 18) (v := .int ((upd F 19 t1) 18)) hW m_in12 (by decide) (zT_mem 1458 (by decide +kernel) rfl) rfl (by decide +kernel) ?_
  refine zV_icmp_le (tgt := 50) (off := 7) (by decide +kernel) (by decide) (fun q => ?_) (fun q => ?_)
  · replace h := zif_pos q h
    clear q
    refine zV_blk (pc' := 51) (lo' := [(0, .ref am), (1, .int x1)]) (st' := [.ref am, .ref am]) [.aload_n 0] (by decide +kernel) rfl ?_
    refine m_get (idx := 366) (k := 18) (v := .int ((upd F 19 t1) 18)) hW m_in12 (by decide) (zT_mem 1458 (by decide +kernel) rfl) rfl (by decide +kernel) ?_
    refine zV_pick (lo2 := [(0, .ref am), (1, .int x1)]) [0, 1] rfl ?_
    exact cmmeetsGap_54 s0 D cB cI cJ cD am a1 a2 a3 (upd F 19 t1) G tp w oc x1 ((upd F 19 t1) 18) hW hFr h hQ
  · replace h := zif_neg q h
    clear q
    refine zV_blk (pc' := 47) (lo' := [(0, .ref am), (1, .int x1)]) (st' := [.int x1, .ref am]) [.iload_n 1] (by decide +kernel) rfl ?_
    refine zV_goto (tgt := 54) (off := 7) (by decide +kernel) (by decide) ?_
    refine zV_pick (lo2 := [(0, .ref am), (1, .int x1)]) [0, 1] rfl ?_
    exact cmmeetsGap_54 s0 D cB cI cJ cD am a1 a2 a3 (upd F 19 t1) G tp w oc x1 x1 hW hFr h hQ
def mmeetsGap (F : Nat → Int32) (x1 : Int32) : Option ((Nat → Int32)) := (if (x1 : Int32) ≤ ((F 18) : Int32) then (if (x1 : Int32) = ((F 18) : Int32) then (mmeetsGap_34 F x1 ((F 19) + 1)) else (mmeetsGap_34 F x1 (F 19))) else (mmeetsGap_34 F x1 1))
theorem oX12_meetsGap : zO yX12_meetsGap cX12_meetsGap 2 none 1 := ⟨zT_mem 1945 (by decide +kernel) rfl, zT_mem 94 (by decide +kernel) rfl, by decide +kernel, by decide +kernel, by decide +kernel⟩
set_option maxHeartbeats 4000000 in
set_option maxRecDepth 100000 in
theorem cmmeetsGap (s0 : State) (D : va_G) (cB cI cJ cD : ClassId) (am a1 a2 a3 : Nat) (F : Nat → Int32) (G : Nat → Int64) (tp w oc : Nat → Int32) (x1 : Int32) (x : (Nat → Int32)) (h : mmeetsGap F x1 = some x) : mC s0 D cB cI cJ cD am a1 a2 a3 yX12_meetsGap cX12_meetsGap 2 none 0 0 [.int x1] F G tp w oc none x G tp w oc := by
  intro hi hm nx Q hW hQ0
  have hQ : ∀ r : (Nat → Int32), x = r → ∀ hm', mW cB cI am a1 a2 a3 r G tp w oc hm' → mFr am a1 a2 a3 hm hm' → Q none hi hm' nx := fun r hr => by subst hr; exact hQ0
  have hFr : mFr am a1 a2 a3 hm hm := mFr.rf
  clear hQ0
  refine zM_of (by decide +kernel) (Nat.le_of_ble_eq_true rfl) ?_
  unfold mmeetsGap at h
  refine zV_eq (lo2 := [(0, .ref am), (1, .int x1)]) rfl rfl rfl rfl ?_
  refine zV_blk (pc' := 3) (lo' := [(0, .ref am), (1, .int x1)]) (st' := [.ref am, .int x1, .ref am]) [.aload_n 0, .iload_n 1, .aload_n 0] (by decide +kernel) rfl ?_
  refine m_get (idx := 366) (k := 18) (v := .int (F 18)) hW m_in12 (by decide) (zT_mem 1458 (by decide +kernel) rfl) rfl (by decide +kernel) ?_
  refine zV_icmp_le (tgt := 13) (off := 7) (by decide +kernel) (by decide) (fun q => ?_) (fun q => ?_)
  · replace h := zif_pos q h
    clear q
    refine zV_blk (pc' := 15) (lo' := [(0, .ref am), (1, .int x1)]) (st' := [.ref am, .int x1, .ref am]) [.iload_n 1, .aload_n 0] (by decide +kernel) rfl ?_
    refine m_get (idx := 366) (k := 18) (v := .int (F 18)) hW m_in12 (by decide) (zT_mem 1458 (by decide +kernel) rfl) rfl (by decide +kernel) ?_
    refine zV_icmp_ne (tgt := 30) (off := 12) (by decide +kernel) (by decide) (fun q => ?_) (fun q => ?_)
    · replace h := zif_neg q h
      clear q
      refine zV_blk (pc' := 31) (lo' := [(0, .ref am), (1, .int x1)]) (st' := [.ref am, .ref am]) [.aload_n 0] (by decide +kernel) rfl ?_
      refine m_get (idx := 369) (k := 19) (v := .int (F 19)) hW m_in12 (by decide) (zT_mem 1459 (by decide +kernel) rfl) rfl (by decide +kernel) ?_
      refine zV_pick (lo2 := [(0, .ref am), (1, .int x1)]) [0, 1] rfl ?_
      exact cmmeetsGap_34 s0 D cB cI cJ cD am a1 a2 a3 F G tp w oc x1 (F 19) hW hFr h hQ
    · replace h := zif_pos q h
      clear q
      refine zV_blk (pc' := 22) (lo' := [(0, .ref am), (1, .int x1)]) (st' := [.ref am, .ref am]) [.aload_n 0] (by decide +kernel) rfl ?_
      refine m_get (idx := 369) (k := 19) (v := .int (F 19)) hW m_in12 (by decide) (zT_mem 1459 (by decide +kernel) rfl) rfl (by decide +kernel) ?_
      refine zV_blk (pc' := 27) (lo' := [(0, .ref am), (1, .int x1)]) (st' := [.int ((F 19) + 1), .ref am]) [.iconst 1, .iadd] (by decide +kernel) rfl ?_
      refine zV_goto (tgt := 34) (off := 7) (by decide +kernel) (by decide) ?_
      refine zV_pick (lo2 := [(0, .ref am), (1, .int x1)]) [0, 1] rfl ?_
      exact cmmeetsGap_34 s0 D cB cI cJ cD am a1 a2 a3 F G tp w oc x1 ((F 19) + 1) hW hFr h hQ
  · replace h := zif_neg q h
    clear q
    refine zV_blk (pc' := 10) (lo' := [(0, .ref am), (1, .int x1)]) (st' := [.int 1, .ref am]) [.iconst 1] (by decide +kernel) rfl ?_
    refine zV_goto (tgt := 34) (off := 24) (by decide +kernel) (by decide) ?_
    refine zV_pick (lo2 := [(0, .ref am), (1, .int x1)]) [0, 1] rfl ?_
    exact cmmeetsGap_34 s0 D cB cI cJ cD am a1 a2 a3 F G tp w oc x1 1 hW hFr h hQ

def mlaysGaps_72 (n : Nat) (F : Nat → Int32) (w : Nat → Int32) (x1 : Int32) (x2 : Int32) (x3 : Int32) (x4 : Int32) : Option ((Int32 × Int32 × Int32 × (Nat → Int32)) ⊕ ((Nat → Int32))) := some (.inl (x2, x3, (x4 + 1), F))
set_option maxHeartbeats 4000000 in
set_option maxRecDepth 100000 in
theorem cmlaysGaps_72 (s0 : State) (D : va_G) (cB cI cJ cD : ClassId) (am a1 a2 a3 : Nat) (F : Nat → Int32) (G : Nat → Int64) (tp w oc : Nat → Int32) (n : Nat) (x1 : Int32) (x2 : Int32) (x3 : Int32) (x4 : Int32) {hi hm : zHp} {nx : Nat} {Q : Option Value → zHp → zHp → Nat → Prop} {hm0 : zHp} {x : (Int32 × Int32 × Int32 × (Nat → Int32)) ⊕ ((Nat → Int32))} (hW : mW cB cI am a1 a2 a3 F G tp w oc hm) (hFr : mFr am a1 a2 a3 hm0 hm) (h : mlaysGaps_72 n F w x1 x2 x3 x4 = some x) (hL22 : ∀ s : Int32 × Int32 × Int32 × (Nat → Int32), x = (.inl s) → ∀ hm', mW cB cI am a1 a2 a3 s.2.2.2 G tp w oc hm' → mFr am a1 a2 a3 hm0 hm' → zV s0 D (zty cB cI cJ cD) yX12_laysGaps cX12_laysGaps 5 none 3 72 0 0 22 [(0, .ref am), (1, .int x1), (2, .int s.1), (3, .int s.2.1), (4, .int s.2.2.1)] [] hi hm' nx Q) (hQ : ∀ r : (Nat → Int32), x = (.inr r) → ∀ hm', mW cB cI am a1 a2 a3 r G tp w oc hm' → mFr am a1 a2 a3 hm0 hm' → Q none hi hm' nx) : zV s0 D (zty cB cI cJ cD) yX12_laysGaps cX12_laysGaps 5 none 3 72 0 0 72 [(0, .ref am), (1, .int x1), (2, .int x2), (3, .int x3), (4, .int x4)] [] hi hm nx Q := by
  unfold mlaysGaps_72 at h
  refine zV_blk (pc' := 75) (lo' := [(4, .int (x4 + 1)), (0, .ref am), (1, .int x1), (2, .int x2), (3, .int x3)]) (st' := []) [.iinc 4 1] (by decide +kernel) rfl ?_
  refine zV_goto (tgt := 22) (off := -53) (by decide +kernel) (by decide) ?_
  obtain rfl := Option.some.inj h
  refine zV_pick (lo2 := [(0, .ref am), (1, .int x1), (2, .int x2), (3, .int x3), (4, .int (x4 + 1))]) [1, 2, 3, 4, 0] rfl ?_
  exact hL22 _ rfl hm hW hFr
def mlaysGaps_69 (n : Nat) (F : Nat → Int32) (w : Nat → Int32) (x1 : Int32) (x2 : Int32) (x4 : Int32) : Option ((Int32 × Int32 × Int32 × (Nat → Int32)) ⊕ ((Nat → Int32))) := (mlaysGaps_72 n F w x1 x2 x4 x4)
set_option maxHeartbeats 4000000 in
set_option maxRecDepth 100000 in
theorem cmlaysGaps_69 (s0 : State) (D : va_G) (cB cI cJ cD : ClassId) (am a1 a2 a3 : Nat) (F : Nat → Int32) (G : Nat → Int64) (tp w oc : Nat → Int32) (n : Nat) (x1 : Int32) (x2 : Int32) (x4 : Int32) {hi hm : zHp} {nx : Nat} {Q : Option Value → zHp → zHp → Nat → Prop} {hm0 : zHp} {x : (Int32 × Int32 × Int32 × (Nat → Int32)) ⊕ ((Nat → Int32))} (hW : mW cB cI am a1 a2 a3 F G tp w oc hm) (hFr : mFr am a1 a2 a3 hm0 hm) (h : mlaysGaps_69 n F w x1 x2 x4 = some x) (hL22 : ∀ s : Int32 × Int32 × Int32 × (Nat → Int32), x = (.inl s) → ∀ hm', mW cB cI am a1 a2 a3 s.2.2.2 G tp w oc hm' → mFr am a1 a2 a3 hm0 hm' → zV s0 D (zty cB cI cJ cD) yX12_laysGaps cX12_laysGaps 5 none 3 72 0 0 22 [(0, .ref am), (1, .int x1), (2, .int s.1), (3, .int s.2.1), (4, .int s.2.2.1)] [] hi hm' nx Q) (hQ : ∀ r : (Nat → Int32), x = (.inr r) → ∀ hm', mW cB cI am a1 a2 a3 r G tp w oc hm' → mFr am a1 a2 a3 hm0 hm' → Q none hi hm' nx) : zV s0 D (zty cB cI cJ cD) yX12_laysGaps cX12_laysGaps 5 none 3 72 0 0 69 [(0, .ref am), (1, .int x1), (2, .int x2), (4, .int x4)] [] hi hm nx Q := by
  unfold mlaysGaps_69 at h
  refine zV_blk (pc' := 72) (lo' := [(3, .int x4), (0, .ref am), (1, .int x1), (2, .int x2), (4, .int x4)]) (st' := []) [.iload 4, .istore_n 3] (by decide +kernel) rfl ?_
  refine zV_pick (lo2 := [(0, .ref am), (1, .int x1), (2, .int x2), (3, .int x4), (4, .int x4)]) [1, 2, 3, 0, 4] rfl ?_
  exact cmlaysGaps_72 s0 D cB cI cJ cD am a1 a2 a3 F G tp w oc n x1 x2 x4 x4 hW hFr h hL22 hQ
def mlaysGaps_22 (n : Nat) (w : Nat → Int32) (x1 : Int32) (s : Int32 × Int32 × Int32 × (Nat → Int32)) : Option ((Int32 × Int32 × Int32 × (Nat → Int32)) ⊕ ((Nat → Int32))) := zck (zin ((x1 + 8)) 35802) ((if ((w ((x1 + 8) : Int32).toNatClampNeg) : Int32) ≤ (s.2.2.1 : Int32) then (if (s.1 : Int32) = ((-1) : Int32) then some (.inr s.2.2.2) else zck (zin ((x1 + 8)) 35802) ((mmeetsGap s.2.2.2 ((s.1 + (w ((x1 + 8) : Int32).toNatClampNeg)) - s.2.1)).bind (fun v1 => some (.inr v1)))) else (misLeap n w x1 (s.2.2.1 : Int32).toInt64).bind (fun v2 => (if v2 = true then (if (s.1 : Int32) = ((-1) : Int32) then (mlaysGaps_69 n s.2.2.2 w x1 s.2.2.1 s.2.2.1) else (mmeetsGap s.2.2.2 (s.2.2.1 - s.2.1)).bind (fun v3 => (mlaysGaps_69 n v3 w x1 s.1 s.2.2.1))) else (mlaysGaps_72 n s.2.2.2 w x1 s.1 s.2.1 s.2.2.1)))))
set_option maxHeartbeats 4000000 in
set_option maxRecDepth 100000 in
theorem cmlaysGaps_22 (s0 : State) (D : va_G) (cB cI cJ cD : ClassId) (am a1 a2 a3 : Nat) (G : Nat → Int64) (tp : Nat → Int32) (w : Nat → Int32) (oc : Nat → Int32) (n : Nat) (x1 : Int32) (s : Int32 × Int32 × Int32 × (Nat → Int32)) (x : (Int32 × Int32 × Int32 × (Nat → Int32)) ⊕ ((Nat → Int32))) {hi hm : zHp} {nx : Nat} {Q : Option Value → zHp → zHp → Nat → Prop} {hm0 : zHp} (hW : mW cB cI am a1 a2 a3 s.2.2.2 G tp w oc hm) (hFr : mFr am a1 a2 a3 hm0 hm) (h : mlaysGaps_22 n w x1 s = some x) (hL22 : ∀ s : Int32 × Int32 × Int32 × (Nat → Int32), x = (.inl s) → ∀ hm', mW cB cI am a1 a2 a3 s.2.2.2 G tp w oc hm' → mFr am a1 a2 a3 hm0 hm' → zV s0 D (zty cB cI cJ cD) yX12_laysGaps cX12_laysGaps 5 none 3 72 0 0 22 [(0, .ref am), (1, .int x1), (2, .int s.1), (3, .int s.2.1), (4, .int s.2.2.1)] [] hi hm' nx Q) (hQ : ∀ r : (Nat → Int32), x = (.inr r) → ∀ hm', mW cB cI am a1 a2 a3 r G tp w oc hm' → mFr am a1 a2 a3 hm0 hm' → Q none hi hm' nx) : zV s0 D (zty cB cI cJ cD) yX12_laysGaps cX12_laysGaps 5 none 3 72 0 0 22 [(0, .ref am), (1, .int x1), (2, .int s.1), (3, .int s.2.1), (4, .int s.2.2.1)] [] hi hm nx Q := by
  unfold mlaysGaps_22 at h
  refine zV_blk (pc' := 25) (lo' := [(0, .ref am), (1, .int x1), (2, .int s.1), (3, .int s.2.1), (4, .int s.2.2.1)]) (st' := [.ref am, .int s.2.2.1]) [.iload 4, .aload_n 0] (by decide +kernel) rfl ?_
  refine m_get (idx := 18) (k := 12) (v := .ref a2) hW m_in12 (by decide) (zT_mem 1452 (by decide +kernel) rfl) rfl (by decide +kernel) ?_
  refine zV_blk (pc' := 32) (lo' := [(0, .ref am), (1, .int x1), (2, .int s.1), (3, .int s.2.1), (4, .int s.2.2.1)]) (st' := [.int (x1 + 8), .ref a2, .int s.2.2.1]) [.iload_n 1, .bipush 8, .iadd] (by decide +kernel) rfl ?_
  obtain ⟨hz, h⟩ := zck_some h
  refine m_wld hW hz (by decide +kernel) ?_
  refine zV_icmp_ge (tgt := 78) (off := 45) (by decide +kernel) (by decide) (fun q => ?_) (fun q => ?_)
  · replace h := zif_pos q h
    clear q
    refine zV_blk (pc' := 80) (lo' := [(0, .ref am), (1, .int x1), (2, .int s.1), (3, .int s.2.1), (4, .int s.2.2.1)]) (st' := [.int (-1), .int s.1]) [.iload_n 2, .iconst (-1)] (by decide +kernel) rfl ?_
    refine zV_icmp_eq (tgt := 100) (off := 20) (by decide +kernel) (by decide) (fun q => ?_) (fun q => ?_)
    · replace h := zif_pos q h
      clear q
      obtain rfl := Option.some.inj h
      exact zV_vret rfl (by decide +kernel) (hQ _ rfl hm hW hFr)
    · replace h := zif_neg q h
      clear q
      refine zV_blk (pc' := 86) (lo' := [(0, .ref am), (1, .int x1), (2, .int s.1), (3, .int s.2.1), (4, .int s.2.2.1)]) (st' := [.ref am, .int s.1, .ref am]) [.aload_n 0, .iload_n 2, .aload_n 0] (by decide +kernel) rfl ?_
      refine m_get (idx := 18) (k := 12) (v := .ref a2) hW m_in12 (by decide) (zT_mem 1452 (by decide +kernel) rfl) rfl (by decide +kernel) ?_
      refine zV_blk (pc' := 93) (lo' := [(0, .ref am), (1, .int x1), (2, .int s.1), (3, .int s.2.1), (4, .int s.2.2.1)]) (st' := [.int (x1 + 8), .ref a2, .int s.1, .ref am]) [.iload_n 1, .bipush 8, .iadd] (by decide +kernel) rfl ?_
      obtain ⟨hz, h⟩ := zck_some h
      refine m_wld hW hz (by decide +kernel) ?_
      refine zV_blk (pc' := 97) (lo' := [(0, .ref am), (1, .int x1), (2, .int s.1), (3, .int s.2.1), (4, .int s.2.2.1)]) (st' := [.int ((s.1 + (w ((x1 + 8) : Int32).toNatClampNeg)) - s.2.1), .ref am]) [.iadd, .iload_n 3, .isub] (by decide +kernel) rfl ?_
      obtain ⟨v1, hv1, h⟩ := zbind h
      refine m_cC (idx := 375) (rest := []) hW (cmmeetsGap s0 D cB cI cJ cD am a1 a2 a3 s.2.2.2 G tp w oc ((s.1 + (w ((x1 + 8) : Int32).toNatClampNeg)) - s.2.1) v1 hv1) oX12_meetsGap rfl (zT_mem 1942 (by decide +kernel) rfl) (zT_mem 1944 (by decide +kernel) rfl) (zT_mem 78 (by decide +kernel) rfl) rfl rfl (Nat.le_of_ble_eq_true rfl) ⟨by decide, by decide⟩ (by decide +kernel) (fun hm hW hFr2 => ?_)
      replace hFr := hFr.tr hFr2; clear hFr2
      refine zV_eq (st2 := []) rfl rfl rfl rfl ?_
      obtain rfl := Option.some.inj h
      exact zV_vret rfl (by decide +kernel) (hQ _ rfl hm hW hFr)
  · replace h := zif_neg q h
    clear q
    refine zV_blk (pc' := 41) (lo' := [(0, .ref am), (1, .int x1), (2, .int s.1), (3, .int s.2.1), (4, .int s.2.2.1)]) (st' := [.long (s.2.2.1 : Int32).toInt64, .int x1, .ref am]) [.aload_n 0, .iload_n 1, .iload 4, .i2l] (by decide +kernel) rfl ?_
    obtain ⟨v2, hv2, h⟩ := zbind h
    refine m_cR (idx := 236) (rest := []) hW (cmisLeap s0 D cB cI cJ cD am a1 a2 a3 s.2.2.2 G tp w oc n x1 (s.2.2.1 : Int32).toInt64 v2 hv2) oX12_isLeap rfl (zT_mem 1805 (by decide +kernel) rfl) (zT_mem 1807 (by decide +kernel) rfl) (zT_mem 64 (by decide +kernel) rfl) rfl rfl (Nat.le_of_ble_eq_true rfl) ⟨by decide, by decide⟩ (by decide +kernel) ?_
    refine zV_eq (st2 := [.int (zb v2)]) rfl rfl rfl rfl ?_
    refine zV_bif_ne (tgt := 50) (off := 6) (by decide +kernel) (by decide) (fun q => ?_) (fun q => ?_)
    · replace h := zif_pos q h
      clear q
      refine zV_blk (pc' := 52) (lo' := [(0, .ref am), (1, .int x1), (2, .int s.1), (3, .int s.2.1), (4, .int s.2.2.1)]) (st' := [.int (-1), .int s.1]) [.iload_n 2, .iconst (-1)] (by decide +kernel) rfl ?_
      refine zV_icmp_ne (tgt := 61) (off := 9) (by decide +kernel) (by decide) (fun q => ?_) (fun q => ?_)
      · replace h := zif_neg q h
        clear q
        refine zV_blk (pc' := 66) (lo' := [(0, .ref am), (1, .int x1), (2, .int s.1), (3, .int s.2.1), (4, .int s.2.2.1)]) (st' := [.int (s.2.2.1 - s.2.1), .ref am]) [.aload_n 0, .iload 4, .iload_n 3, .isub] (by decide +kernel) rfl ?_
        obtain ⟨v3, hv3, h⟩ := zbind h
        refine m_cC (idx := 375) (rest := []) hW (cmmeetsGap s0 D cB cI cJ cD am a1 a2 a3 s.2.2.2 G tp w oc (s.2.2.1 - s.2.1) v3 hv3) oX12_meetsGap rfl (zT_mem 1942 (by decide +kernel) rfl) (zT_mem 1944 (by decide +kernel) rfl) (zT_mem 78 (by decide +kernel) rfl) rfl rfl (Nat.le_of_ble_eq_true rfl) ⟨by decide, by decide⟩ (by decide +kernel) (fun hm hW hFr2 => ?_)
        replace hFr := hFr.tr hFr2; clear hFr2
        refine zV_eq (st2 := []) rfl rfl rfl rfl ?_
        refine zV_pick (lo2 := [(0, .ref am), (1, .int x1), (2, .int s.1), (4, .int s.2.2.1)]) [0, 1, 2, 4] rfl ?_
        exact cmlaysGaps_69 s0 D cB cI cJ cD am a1 a2 a3 v3 G tp w oc n x1 s.1 s.2.2.1 hW hFr h hL22 hQ
      · replace h := zif_pos q h
        clear q
        refine zV_blk (pc' := 58) (lo' := [(2, .int s.2.2.1), (0, .ref am), (1, .int x1), (3, .int s.2.1), (4, .int s.2.2.1)]) (st' := []) [.iload 4, .istore_n 2] (by decide +kernel) rfl ?_
        refine zV_goto (tgt := 69) (off := 11) (by decide +kernel) (by decide) ?_
        refine zV_pick (lo2 := [(0, .ref am), (1, .int x1), (2, .int s.2.2.1), (4, .int s.2.2.1)]) [1, 2, 0, 4] rfl ?_
        exact cmlaysGaps_69 s0 D cB cI cJ cD am a1 a2 a3 s.2.2.2 G tp w oc n x1 s.2.2.1 s.2.2.1 hW hFr h hL22 hQ
    · replace h := zif_neg q h
      clear q
      refine zV_goto (tgt := 72) (off := 25) (by decide +kernel) (by decide) ?_
      refine zV_pick (lo2 := [(0, .ref am), (1, .int x1), (2, .int s.1), (3, .int s.2.1), (4, .int s.2.2.1)]) [0, 1, 2, 3, 4] rfl ?_
      exact cmlaysGaps_72 s0 D cB cI cJ cD am a1 a2 a3 s.2.2.2 G tp w oc n x1 s.1 s.2.1 s.2.2.1 hW hFr h hL22 hQ
theorem cmlaysGaps_22L (s0 : State) (D : va_G) (cB cI cJ cD : ClassId) (am a1 a2 a3 : Nat) (G : Nat → Int64) (tp : Nat → Int32) (w : Nat → Int32) (oc : Nat → Int32) (n : Nat) (x1 : Int32) : ∀ (k : Nat) (s : Int32 × Int32 × Int32 × (Nat → Int32)) {hi hm : zHp} {nx : Nat} {Q : Option Value → zHp → zHp → Nat → Prop} {hm0 : zHp} (_ : mW cB cI am a1 a2 a3 s.2.2.2 G tp w oc hm) (_ : mFr am a1 a2 a3 hm0 hm) {x : (Nat → Int32)} (_ : zloop (mlaysGaps_22 n w x1) k s = some x) (hQ : ∀ r : (Nat → Int32), x = r → ∀ hm', mW cB cI am a1 a2 a3 r G tp w oc hm' → mFr am a1 a2 a3 hm0 hm' → Q none hi hm' nx), zV s0 D (zty cB cI cJ cD) yX12_laysGaps cX12_laysGaps 5 none 3 72 0 0 22 [(0, .ref am), (1, .int x1), (2, .int s.1), (3, .int s.2.1), (4, .int s.2.2.1)] [] hi hm nx Q
  | 0, s, _, _, _, _, _, hW, hFr, _, h, _ => by cases h
  | k + 1, s, hi, hm, nx, Q, hm0, hW, hFr, x, h, hQ => by
    obtain ⟨z, hz, h1, h2⟩ := zloop_succ h
    exact cmlaysGaps_22 s0 D cB cI cJ cD am a1 a2 a3 G tp w oc n x1 s z hW hFr hz (fun s' hs hm' hW' hFr' => cmlaysGaps_22L s0 D cB cI cJ cD am a1 a2 a3 G tp w oc n x1 k s' hW' hFr' (h1 s' hs) hQ) (fun r hr hm' hW' hFr' => hQ r (h2 _ hr).symm hm' hW' hFr')
def mlaysGaps (n : Nat) (F : Nat → Int32) (w : Nat → Int32) (x1 : Int32) : Option ((Nat → Int32)) := (zloop (mlaysGaps_22 n w x1) n ((-1), (-1), 0, (upd (upd (upd F 17 0) 18 0) 19 0)))
theorem oX12_laysGaps : zO yX12_laysGaps cX12_laysGaps 5 none 1 := ⟨zT_mem 1941 (by decide +kernel) rfl, zT_mem 94 (by decide +kernel) rfl, by decide +kernel, by decide +kernel, by decide +kernel⟩
set_option maxHeartbeats 4000000 in
set_option maxRecDepth 100000 in
theorem cmlaysGaps (s0 : State) (D : va_G) (cB cI cJ cD : ClassId) (am a1 a2 a3 : Nat) (F : Nat → Int32) (G : Nat → Int64) (tp w oc : Nat → Int32) (n : Nat) (x1 : Int32) (x : (Nat → Int32)) (h : mlaysGaps n F w x1 = some x) : mC s0 D cB cI cJ cD am a1 a2 a3 yX12_laysGaps cX12_laysGaps 5 none 3 72 [.int x1] F G tp w oc none x G tp w oc := by
  intro hi hm nx Q hW hQ0
  have hQ : ∀ r : (Nat → Int32), x = r → ∀ hm', mW cB cI am a1 a2 a3 r G tp w oc hm' → mFr am a1 a2 a3 hm hm' → Q none hi hm' nx := fun r hr => by subst hr; exact hQ0
  have hFr : mFr am a1 a2 a3 hm hm := mFr.rf
  clear hQ0
  refine zM_of (by decide +kernel) (Nat.le_of_ble_eq_true rfl) ?_
  unfold mlaysGaps at h
  refine zV_eq (lo2 := [(0, .ref am), (1, .int x1)]) rfl rfl rfl rfl ?_
  refine zV_blk (pc' := 2) (lo' := [(0, .ref am), (1, .int x1)]) (st' := [.int 0, .ref am]) [.aload_n 0, .iconst 0] (by decide +kernel) rfl ?_
  refine m_put (idx := 372) (k := 17) (v := .int 0) (F' := (upd F 17 0)) (G' := G) hW m_in12 (by decide) (zT_mem 1457 (by decide +kernel) rfl) rfl rfl rfl rfl (by decide +kernel) (fun hm hW hFr2 => ?_)
  replace hFr := hFr.tr hFr2; clear hFr2
  refine zV_blk (pc' := 7) (lo' := [(0, .ref am), (1, .int x1)]) (st' := [.int 0, .ref am]) [.aload_n 0, .iconst 0] (by decide +kernel) rfl ?_
  refine m_put (idx := 366) (k := 18) (v := .int 0) (F' := (upd (upd F 17 0) 18 0)) (G' := G) hW m_in12 (by decide) (zT_mem 1458 (by decide +kernel) rfl) rfl rfl rfl rfl (by decide +kernel) (fun hm hW hFr2 => ?_)
  replace hFr := hFr.tr hFr2; clear hFr2
  refine zV_blk (pc' := 12) (lo' := [(0, .ref am), (1, .int x1)]) (st' := [.int 0, .ref am]) [.aload_n 0, .iconst 0] (by decide +kernel) rfl ?_
  refine m_put (idx := 369) (k := 19) (v := .int 0) (F' := (upd (upd (upd F 17 0) 18 0) 19 0)) (G' := G) hW m_in12 (by decide) (zT_mem 1459 (by decide +kernel) rfl) rfl rfl rfl rfl (by decide +kernel) (fun hm hW hFr2 => ?_)
  replace hFr := hFr.tr hFr2; clear hFr2
  refine zV_blk (pc' := 22) (lo' := [(4, .int 0), (3, .int (-1)), (2, .int (-1)), (0, .ref am), (1, .int x1)]) (st' := []) [.iconst (-1), .istore_n 2, .iconst (-1), .istore_n 3, .iconst 0, .istore 4] (by decide +kernel) rfl ?_
  refine zV_pick (lo2 := [(0, .ref am), (1, .int x1), (2, .int (-1)), (3, .int (-1)), (4, .int 0)]) [3, 4, 2, 1, 0] rfl ?_
  exact cmlaysGaps_22L s0 D cB cI cJ cD am a1 a2 a3 G tp w oc n x1 n ((-1), (-1), 0, (upd (upd (upd F 17 0) 18 0) 19 0)) hW hFr h hQ

def mgap (n : Nat) (F : Nat → Int32) (w : Nat → Int32) (x1 : Int32) (x2 : Int32) : Option (Int32 × (Nat → Int32)) := (misThere w x1).bind (fun v1 => (if v1 = true then (misIn (x2 : Int32).toInt64 0 2).bind (fun v2 => (if v2 = true then (mbank x1).bind (fun v3 => (mlaysGaps n (upd F 0 0) w v3).bind (fun v4 => (if (x2 : Int32) = (0 : Int32) then some ((v4 17), v4) else (if (x2 : Int32) = (1 : Int32) then some ((v4 18), v4) else some ((v4 19), v4))))) else some ((-1), (upd F 0 0)))) else some ((-1), (upd F 0 0))))
theorem oX12_gap : zO yX12_gap cX12_gap 3 (some .int) 2 := ⟨zT_mem 1937 (by decide +kernel) rfl, zT_mem 94 (by decide +kernel) rfl, by decide +kernel, by decide +kernel, by decide +kernel⟩
set_option maxHeartbeats 4000000 in
set_option maxRecDepth 100000 in
theorem cmgap (s0 : State) (D : va_G) (cB cI cJ cD : ClassId) (am a1 a2 a3 : Nat) (F : Nat → Int32) (G : Nat → Int64) (tp w oc : Nat → Int32) (n : Nat) (x1 : Int32) (x2 : Int32) (x : Int32 × (Nat → Int32)) (h : mgap n F w x1 x2 = some x) : mC s0 D cB cI cJ cD am a1 a2 a3 yX12_gap cX12_gap 3 (some .int) 4 96 [.int x1, .int x2] F G tp w oc (some (.int x.1)) x.2 G tp w oc := by
  intro hi hm nx Q hW hQ0
  have hQ : ∀ r : Int32 × (Nat → Int32), x = r → ∀ hm', mW cB cI am a1 a2 a3 r.2 G tp w oc hm' → mFr am a1 a2 a3 hm hm' → Q (some (.int r.1)) hi hm' nx := fun r hr => by subst hr; exact hQ0
  have hFr : mFr am a1 a2 a3 hm hm := mFr.rf
  clear hQ0
  refine zM_of (by decide +kernel) (Nat.le_of_ble_eq_true rfl) ?_
  unfold mgap at h
  refine zV_eq (lo2 := [(0, .ref am), (1, .int x1), (2, .int x2)]) rfl rfl rfl rfl ?_
  refine zV_blk (pc' := 2) (lo' := [(0, .ref am), (1, .int x1), (2, .int x2)]) (st' := [.int 0, .ref am]) [.aload_n 0, .iconst 0] (by decide +kernel) rfl ?_
  refine m_put (idx := 25) (k := 0) (v := .int 0) (F' := (upd F 0 0)) (G' := G) hW m_in12 (by decide) (zT_mem 1440 (by decide +kernel) rfl) rfl rfl rfl rfl (by decide +kernel) (fun hm hW hFr2 => ?_)
  replace hFr := hFr.tr hFr2; clear hFr2
  refine zV_blk (pc' := 7) (lo' := [(0, .ref am), (1, .int x1), (2, .int x2)]) (st' := [.int x1, .ref am]) [.aload_n 0, .iload_n 1] (by decide +kernel) rfl ?_
  obtain ⟨v1, hv1, h⟩ := zbind h
  refine m_cR (idx := 273) (rest := []) hW (cmisThere s0 D cB cI cJ cD am a1 a2 a3 (upd F 0 0) G tp w oc x1 v1 hv1) oX12_isThere rfl (zT_mem 1686 (by decide +kernel) rfl) (zT_mem 1688 (by decide +kernel) rfl) (zT_mem 49 (by decide +kernel) rfl) rfl rfl (Nat.le_of_ble_eq_true rfl) ⟨by decide, by decide⟩ (by decide +kernel) ?_
  refine zV_eq (st2 := [.int (zb v1)]) rfl rfl rfl rfl ?_
  refine zV_bif_eq (tgt := 25) (off := 15) (by decide +kernel) (by decide) (fun q => ?_) (fun q => ?_)
  · replace h := zif_neg q h
    clear q
    refine zV_blk (pc' := 26) (lo' := [(0, .ref am), (1, .int x1), (2, .int x2)]) (st' := [.int (-1)]) [.iconst (-1)] (by decide +kernel) rfl ?_
    obtain rfl := Option.some.inj h
    exact zV_iret rfl (by decide +kernel) (hQ _ rfl hm hW hFr)
  · replace h := zif_pos q h
    clear q
    refine zV_blk (pc' := 16) (lo' := [(0, .ref am), (1, .int x1), (2, .int x2)]) (st' := [.long 0, .long (x2 : Int32).toInt64]) [.iload_n 2, .i2l, .lconst 0] (by decide +kernel) rfl ?_
    refine zV_ldc2 (idx := 249) (v := 2) (zT_mem 1859 (by decide +kernel) rfl) (by decide +kernel) ?_
    obtain ⟨v2, hv2, h⟩ := zbind h
    refine zV_sC (idx := 36) (rest := []) (cmisIn s0 D cB cI cJ cD (x2 : Int32).toInt64 0 2 v2 hv2) oX12_isIn (zT_mem 1531 (by decide +kernel) rfl) (zT_mem 1532 (by decide +kernel) rfl) rfl rfl (Nat.le_of_ble_eq_true rfl) ⟨by decide, by decide⟩ (by decide +kernel) ?_
    refine zV_eq (st2 := [.int (zb v2)]) rfl rfl rfl rfl ?_
    refine zV_bif_ne (tgt := 27) (off := 5) (by decide +kernel) (by decide) (fun q => ?_) (fun q => ?_)
    · replace h := zif_pos q h
      clear q
      refine zV_blk (pc' := 29) (lo' := [(0, .ref am), (1, .int x1), (2, .int x2)]) (st' := [.int x1, .ref am]) [.aload_n 0, .iload_n 1] (by decide +kernel) rfl ?_
      obtain ⟨v3, hv3, h⟩ := zbind h
      refine zV_sC (idx := 118) (rest := [.ref am]) (cmbank s0 D cB cI cJ cD x1 v3 hv3) oX12_bank (zT_mem 1671 (by decide +kernel) rfl) (zT_mem 1672 (by decide +kernel) rfl) rfl rfl (Nat.le_of_ble_eq_true rfl) ⟨by decide, by decide⟩ (by decide +kernel) ?_
      refine zV_eq (st2 := [.int v3, .ref am]) rfl rfl rfl rfl ?_
      obtain ⟨v4, hv4, h⟩ := zbind h
      refine m_cC (idx := 378) (rest := []) hW (cmlaysGaps s0 D cB cI cJ cD am a1 a2 a3 (upd F 0 0) G tp w oc n v3 v4 hv4) oX12_laysGaps rfl (zT_mem 1938 (by decide +kernel) rfl) (zT_mem 1940 (by decide +kernel) rfl) (zT_mem 77 (by decide +kernel) rfl) rfl rfl (Nat.le_of_ble_eq_true rfl) ⟨by decide, by decide⟩ (by decide +kernel) (fun hm hW hFr2 => ?_)
      replace hFr := hFr.tr hFr2; clear hFr2
      refine zV_eq (st2 := []) rfl rfl rfl rfl ?_
      refine zV_blk (pc' := 36) (lo' := [(0, .ref am), (1, .int x1), (2, .int x2)]) (st' := [.int x2]) [.iload_n 2] (by decide +kernel) rfl ?_
      refine zV_if_ne (tgt := 46) (off := 10) (by decide +kernel) (by decide) (fun q => ?_) (fun q => ?_)
      · replace h := zif_neg q h
        clear q
        refine zV_blk (pc' := 48) (lo' := [(0, .ref am), (1, .int x1), (2, .int x2)]) (st' := [.int 1, .int x2]) [.iload_n 2, .iconst 1] (by decide +kernel) rfl ?_
        refine zV_icmp_ne (tgt := 58) (off := 10) (by decide +kernel) (by decide) (fun q => ?_) (fun q => ?_)
        · replace h := zif_neg q h
          clear q
          refine zV_blk (pc' := 59) (lo' := [(0, .ref am), (1, .int x1), (2, .int x2)]) (st' := [.ref am]) [.aload_n 0] (by decide +kernel) rfl ?_
          refine m_get (idx := 369) (k := 19) (v := .int (v4 19)) hW m_in12 (by decide) (zT_mem 1459 (by decide +kernel) rfl) rfl (by decide +kernel) ?_
          obtain rfl := Option.some.inj h
          exact zV_iret rfl (by decide +kernel) (hQ _ rfl hm hW hFr)
        · replace h := zif_pos q h
          clear q
          refine zV_blk (pc' := 52) (lo' := [(0, .ref am), (1, .int x1), (2, .int x2)]) (st' := [.ref am]) [.aload_n 0] (by decide +kernel) rfl ?_
          refine m_get (idx := 366) (k := 18) (v := .int (v4 18)) hW m_in12 (by decide) (zT_mem 1458 (by decide +kernel) rfl) rfl (by decide +kernel) ?_
          refine zV_goto (tgt := 62) (off := 7) (by decide +kernel) (by decide) ?_
          obtain rfl := Option.some.inj h
          exact zV_iret rfl (by decide +kernel) (hQ _ rfl hm hW hFr)
      · replace h := zif_pos q h
        clear q
        refine zV_blk (pc' := 40) (lo' := [(0, .ref am), (1, .int x1), (2, .int x2)]) (st' := [.ref am]) [.aload_n 0] (by decide +kernel) rfl ?_
        refine m_get (idx := 372) (k := 17) (v := .int (v4 17)) hW m_in12 (by decide) (zT_mem 1457 (by decide +kernel) rfl) rfl (by decide +kernel) ?_
        refine zV_goto (tgt := 62) (off := 19) (by decide +kernel) (by decide) ?_
        obtain rfl := Option.some.inj h
        exact zV_iret rfl (by decide +kernel) (hQ _ rfl hm hW hFr)
    · replace h := zif_neg q h
      clear q
      refine zV_blk (pc' := 26) (lo' := [(0, .ref am), (1, .int x1), (2, .int x2)]) (st' := [.int (-1)]) [.iconst (-1)] (by decide +kernel) rfl ?_
      obtain rfl := Option.some.inj h
      exact zV_iret rfl (by decide +kernel) (hQ _ rfl hm hW hFr)

def meven_41 (n : Nat) (F : Nat → Int32) (w : Nat → Int32) (t0 : Int32) : Option (Int32 × (Nat → Int32)) := (mflag t0).bind (fun v1 => some (v1, F))
set_option maxHeartbeats 4000000 in
set_option maxRecDepth 100000 in
theorem cmeven_41 (s0 : State) (D : va_G) (cB cI cJ cD : ClassId) (am a1 a2 a3 : Nat) (F : Nat → Int32) (G : Nat → Int64) (tp w oc : Nat → Int32) (n : Nat) (t0 : Int32) {hi hm : zHp} {nx : Nat} {Q : Option Value → zHp → zHp → Nat → Prop} {hm0 : zHp} {x : Int32 × (Nat → Int32)} (hW : mW cB cI am a1 a2 a3 F G tp w oc hm) (hFr : mFr am a1 a2 a3 hm0 hm) (h : meven_41 n F w t0 = some x) (hQ : ∀ r : Int32 × (Nat → Int32), x = r → ∀ hm', mW cB cI am a1 a2 a3 r.2 G tp w oc hm' → mFr am a1 a2 a3 hm0 hm' → Q (some (.int r.1)) hi hm' nx) : zV s0 D (zty cB cI cJ cD) yX12_even cX12_even 2 (some .int) 4 96 0 0 41 [] [.int t0] hi hm nx Q := by
  unfold meven_41 at h
  obtain ⟨v1, hv1, h⟩ := zbind h
  refine zV_sC (idx := 321) (rest := []) (cmflag s0 D cB cI cJ cD t0 v1 hv1) oX12_flag (zT_mem 1822 (by decide +kernel) rfl) (zT_mem 1823 (by decide +kernel) rfl) rfl rfl (Nat.le_of_ble_eq_true rfl) ⟨by decide, by decide⟩ (by decide +kernel) ?_
  refine zV_eq (st2 := [.int v1]) rfl rfl rfl rfl ?_
  obtain rfl := Option.some.inj h
  exact zV_iret rfl (by decide +kernel) (hQ _ rfl hm hW hFr)
def meven (n : Nat) (F : Nat → Int32) (w : Nat → Int32) (x1 : Int32) : Option (Int32 × (Nat → Int32)) := (misThere w x1).bind (fun v1 => (if v1 = true then (mbank x1).bind (fun v2 => (mlaysGaps n (upd F 0 0) w v2).bind (fun v3 => (if (2 : Int32) ≤ (((v3 18) - (v3 17)) : Int32) then (meven_41 n v3 w 0) else (meven_41 n v3 w 1)))) else some ((-1), (upd F 0 0))))
theorem oX12_even : zO yX12_even cX12_even 2 (some .int) 1 := ⟨zT_mem 1949 (by decide +kernel) rfl, zT_mem 94 (by decide +kernel) rfl, by decide +kernel, by decide +kernel, by decide +kernel⟩
set_option maxHeartbeats 4000000 in
set_option maxRecDepth 100000 in
theorem cmeven (s0 : State) (D : va_G) (cB cI cJ cD : ClassId) (am a1 a2 a3 : Nat) (F : Nat → Int32) (G : Nat → Int64) (tp w oc : Nat → Int32) (n : Nat) (x1 : Int32) (x : Int32 × (Nat → Int32)) (h : meven n F w x1 = some x) : mC s0 D cB cI cJ cD am a1 a2 a3 yX12_even cX12_even 2 (some .int) 4 96 [.int x1] F G tp w oc (some (.int x.1)) x.2 G tp w oc := by
  intro hi hm nx Q hW hQ0
  have hQ : ∀ r : Int32 × (Nat → Int32), x = r → ∀ hm', mW cB cI am a1 a2 a3 r.2 G tp w oc hm' → mFr am a1 a2 a3 hm hm' → Q (some (.int r.1)) hi hm' nx := fun r hr => by subst hr; exact hQ0
  have hFr : mFr am a1 a2 a3 hm hm := mFr.rf
  clear hQ0
  refine zM_of (by decide +kernel) (Nat.le_of_ble_eq_true rfl) ?_
  unfold meven at h
  refine zV_eq (lo2 := [(0, .ref am), (1, .int x1)]) rfl rfl rfl rfl ?_
  refine zV_blk (pc' := 2) (lo' := [(0, .ref am), (1, .int x1)]) (st' := [.int 0, .ref am]) [.aload_n 0, .iconst 0] (by decide +kernel) rfl ?_
  refine m_put (idx := 25) (k := 0) (v := .int 0) (F' := (upd F 0 0)) (G' := G) hW m_in12 (by decide) (zT_mem 1440 (by decide +kernel) rfl) rfl rfl rfl rfl (by decide +kernel) (fun hm hW hFr2 => ?_)
  replace hFr := hFr.tr hFr2; clear hFr2
  refine zV_blk (pc' := 7) (lo' := [(0, .ref am), (1, .int x1)]) (st' := [.int x1, .ref am]) [.aload_n 0, .iload_n 1] (by decide +kernel) rfl ?_
  obtain ⟨v1, hv1, h⟩ := zbind h
  refine m_cR (idx := 273) (rest := []) hW (cmisThere s0 D cB cI cJ cD am a1 a2 a3 (upd F 0 0) G tp w oc x1 v1 hv1) oX12_isThere rfl (zT_mem 1686 (by decide +kernel) rfl) (zT_mem 1688 (by decide +kernel) rfl) (zT_mem 49 (by decide +kernel) rfl) rfl rfl (Nat.le_of_ble_eq_true rfl) ⟨by decide, by decide⟩ (by decide +kernel) ?_
  refine zV_eq (st2 := [.int (zb v1)]) rfl rfl rfl rfl ?_
  refine zV_bif_ne (tgt := 15) (off := 5) (by decide +kernel) (by decide) (fun q => ?_) (fun q => ?_)
  · replace h := zif_pos q h
    clear q
    refine zV_blk (pc' := 17) (lo' := [(0, .ref am), (1, .int x1)]) (st' := [.int x1, .ref am]) [.aload_n 0, .iload_n 1] (by decide +kernel) rfl ?_
    obtain ⟨v2, hv2, h⟩ := zbind h
    refine zV_sC (idx := 118) (rest := [.ref am]) (cmbank s0 D cB cI cJ cD x1 v2 hv2) oX12_bank (zT_mem 1671 (by decide +kernel) rfl) (zT_mem 1672 (by decide +kernel) rfl) rfl rfl (Nat.le_of_ble_eq_true rfl) ⟨by decide, by decide⟩ (by decide +kernel) ?_
    refine zV_eq (st2 := [.int v2, .ref am]) rfl rfl rfl rfl ?_
    obtain ⟨v3, hv3, h⟩ := zbind h
    refine m_cC (idx := 378) (rest := []) hW (cmlaysGaps s0 D cB cI cJ cD am a1 a2 a3 (upd F 0 0) G tp w oc n v2 v3 hv3) oX12_laysGaps rfl (zT_mem 1938 (by decide +kernel) rfl) (zT_mem 1940 (by decide +kernel) rfl) (zT_mem 77 (by decide +kernel) rfl) rfl rfl (Nat.le_of_ble_eq_true rfl) ⟨by decide, by decide⟩ (by decide +kernel) (fun hm hW hFr2 => ?_)
    replace hFr := hFr.tr hFr2; clear hFr2
    refine zV_eq (st2 := []) rfl rfl rfl rfl ?_
    refine zV_blk (pc' := 24) (lo' := [(0, .ref am), (1, .int x1)]) (st' := [.ref am]) [.aload_n 0] (by decide +kernel) rfl ?_
    refine m_get (idx := 366) (k := 18) (v := .int (v3 18)) hW m_in12 (by decide) (zT_mem 1458 (by decide +kernel) rfl) rfl (by decide +kernel) ?_
    refine zV_blk (pc' := 28) (lo' := [(0, .ref am), (1, .int x1)]) (st' := [.ref am, .int (v3 18)]) [.aload_n 0] (by decide +kernel) rfl ?_
    refine m_get (idx := 372) (k := 17) (v := .int (v3 17)) hW m_in12 (by decide) (zT_mem 1457 (by decide +kernel) rfl) rfl (by decide +kernel) ?_
    refine zV_blk (pc' := 33) (lo' := [(0, .ref am), (1, .int x1)]) (st' := [.int 2, .int ((v3 18) - (v3 17))]) [.isub, .iconst 2] (by decide +kernel) rfl ?_
    refine zV_icmp_ge (tgt := 40) (off := 7) (by decide +kernel) (by decide) (fun q => ?_) (fun q => ?_)
    · replace h := zif_pos q h
      clear q
      refine zV_blk (pc' := 41) (lo' := [(0, .ref am), (1, .int x1)]) (st' := [.int 0]) [.iconst 0] (by decide +kernel) rfl ?_
      refine zV_pick (lo2 := []) [] rfl ?_
      exact cmeven_41 s0 D cB cI cJ cD am a1 a2 a3 v3 G tp w oc n 0 hW hFr h hQ
    · replace h := zif_neg q h
      clear q
      refine zV_blk (pc' := 37) (lo' := [(0, .ref am), (1, .int x1)]) (st' := [.int 1]) [.iconst 1] (by decide +kernel) rfl ?_
      refine zV_goto (tgt := 41) (off := 4) (by decide +kernel) (by decide) ?_
      refine zV_pick (lo2 := []) [] rfl ?_
      exact cmeven_41 s0 D cB cI cJ cD am a1 a2 a3 v3 G tp w oc n 1 hW hFr h hQ
  · replace h := zif_neg q h
    clear q
    refine zV_blk (pc' := 14) (lo' := [(0, .ref am), (1, .int x1)]) (st' := [.int (-1)]) [.iconst (-1)] (by decide +kernel) rfl ?_
    obtain rfl := Option.some.inj h
    exact zV_iret rfl (by decide +kernel) (hQ _ rfl hm hW hFr)

def mweeks (n : Nat) (F : Nat → Int32) (w : Nat → Int32) (x1 : Int32) : Option (Int32 × (Nat → Int32)) := (misThere w x1).bind (fun v1 => (if v1 = true then (mbank x1).bind (fun v2 => zck (zin ((v2 + 8)) 35802) (zck (zin ((v2 + 6)) 35802) (zck (zin ((v2 + 8)) 35802) ((mstartOf n w v2 ((w ((v2 + 8) : Int32).toNatClampNeg) : Int32).toInt64).bind (fun v3 => zck (zin ((v2 + 6)) 35802) ((mgcd n v3 ((w ((v2 + 6) : Int32).toNatClampNeg) : Int32).toInt64).bind (fun v4 => zck (decide (¬ ((v4 : Int64).toInt32 : Int32) = 0)) (some (((w ((v2 + 8) : Int32).toNatClampNeg) * ((w ((v2 + 6) : Int32).toNatClampNeg) / (v4 : Int64).toInt32)), (upd F 0 0)))))))))) else some ((-1), (upd F 0 0))))
theorem oX12_weeks : zO yX12_weeks cX12_weeks 3 (some .int) 1 := ⟨zT_mem 1953 (by decide +kernel) rfl, zT_mem 94 (by decide +kernel) rfl, by decide +kernel, by decide +kernel, by decide +kernel⟩
set_option maxHeartbeats 4000000 in
set_option maxRecDepth 100000 in
theorem cmweeks (s0 : State) (D : va_G) (cB cI cJ cD : ClassId) (am a1 a2 a3 : Nat) (F : Nat → Int32) (G : Nat → Int64) (tp w oc : Nat → Int32) (n : Nat) (x1 : Int32) (x : Int32 × (Nat → Int32)) (h : mweeks n F w x1 = some x) : mC s0 D cB cI cJ cD am a1 a2 a3 yX12_weeks cX12_weeks 3 (some .int) 4 97 [.int x1] F G tp w oc (some (.int x.1)) x.2 G tp w oc := by
  intro hi hm nx Q hW hQ0
  have hQ : ∀ r : Int32 × (Nat → Int32), x = r → ∀ hm', mW cB cI am a1 a2 a3 r.2 G tp w oc hm' → mFr am a1 a2 a3 hm hm' → Q (some (.int r.1)) hi hm' nx := fun r hr => by subst hr; exact hQ0
  have hFr : mFr am a1 a2 a3 hm hm := mFr.rf
  clear hQ0
  refine zM_of (by decide +kernel) (Nat.le_of_ble_eq_true rfl) ?_
  unfold mweeks at h
  refine zV_eq (lo2 := [(0, .ref am), (1, .int x1)]) rfl rfl rfl rfl ?_
  refine zV_blk (pc' := 2) (lo' := [(0, .ref am), (1, .int x1)]) (st' := [.int 0, .ref am]) [.aload_n 0, .iconst 0] (by decide +kernel) rfl ?_
  refine m_put (idx := 25) (k := 0) (v := .int 0) (F' := (upd F 0 0)) (G' := G) hW m_in12 (by decide) (zT_mem 1440 (by decide +kernel) rfl) rfl rfl rfl rfl (by decide +kernel) (fun hm hW hFr2 => ?_)
  replace hFr := hFr.tr hFr2; clear hFr2
  refine zV_blk (pc' := 7) (lo' := [(0, .ref am), (1, .int x1)]) (st' := [.int x1, .ref am]) [.aload_n 0, .iload_n 1] (by decide +kernel) rfl ?_
  obtain ⟨v1, hv1, h⟩ := zbind h
  refine m_cR (idx := 273) (rest := []) hW (cmisThere s0 D cB cI cJ cD am a1 a2 a3 (upd F 0 0) G tp w oc x1 v1 hv1) oX12_isThere rfl (zT_mem 1686 (by decide +kernel) rfl) (zT_mem 1688 (by decide +kernel) rfl) (zT_mem 49 (by decide +kernel) rfl) rfl rfl (Nat.le_of_ble_eq_true rfl) ⟨by decide, by decide⟩ (by decide +kernel) ?_
  refine zV_eq (st2 := [.int (zb v1)]) rfl rfl rfl rfl ?_
  refine zV_bif_ne (tgt := 15) (off := 5) (by decide +kernel) (by decide) (fun q => ?_) (fun q => ?_)
  · replace h := zif_pos q h
    clear q
    refine zV_blk (pc' := 16) (lo' := [(0, .ref am), (1, .int x1)]) (st' := [.int x1]) [.iload_n 1] (by decide +kernel) rfl ?_
    obtain ⟨v2, hv2, h⟩ := zbind h
    refine zV_sC (idx := 118) (rest := []) (cmbank s0 D cB cI cJ cD x1 v2 hv2) oX12_bank (zT_mem 1671 (by decide +kernel) rfl) (zT_mem 1672 (by decide +kernel) rfl) rfl rfl (Nat.le_of_ble_eq_true rfl) ⟨by decide, by decide⟩ (by decide +kernel) ?_
    refine zV_eq (st2 := [.int v2]) rfl rfl rfl rfl ?_
    refine zV_blk (pc' := 21) (lo' := [(2, .int v2), (0, .ref am), (1, .int x1)]) (st' := [.ref am]) [.istore_n 2, .aload_n 0] (by decide +kernel) rfl ?_
    refine m_get (idx := 18) (k := 12) (v := .ref a2) hW m_in12 (by decide) (zT_mem 1452 (by decide +kernel) rfl) rfl (by decide +kernel) ?_
    refine zV_blk (pc' := 28) (lo' := [(2, .int v2), (0, .ref am), (1, .int x1)]) (st' := [.int (v2 + 8), .ref a2]) [.iload_n 2, .bipush 8, .iadd] (by decide +kernel) rfl ?_
    obtain ⟨hz, h⟩ := zck_some h
    refine m_wld hW hz (by decide +kernel) ?_
    refine zV_blk (pc' := 30) (lo' := [(2, .int v2), (0, .ref am), (1, .int x1)]) (st' := [.ref am, .int (w ((v2 + 8) : Int32).toNatClampNeg)]) [.aload_n 0] (by decide +kernel) rfl ?_
    refine m_get (idx := 18) (k := 12) (v := .ref a2) hW m_in12 (by decide) (zT_mem 1452 (by decide +kernel) rfl) rfl (by decide +kernel) ?_
    refine zV_blk (pc' := 37) (lo' := [(2, .int v2), (0, .ref am), (1, .int x1)]) (st' := [.int (v2 + 6), .ref a2, .int (w ((v2 + 8) : Int32).toNatClampNeg)]) [.iload_n 2, .bipush 6, .iadd] (by decide +kernel) rfl ?_
    obtain ⟨hz, h⟩ := zck_some h
    refine m_wld hW hz (by decide +kernel) ?_
    refine zV_blk (pc' := 41) (lo' := [(2, .int v2), (0, .ref am), (1, .int x1)]) (st' := [.ref am, .int v2, .ref am, .int (w ((v2 + 6) : Int32).toNatClampNeg), .int (w ((v2 + 8) : Int32).toNatClampNeg)]) [.aload_n 0, .iload_n 2, .aload_n 0] (by decide +kernel) rfl ?_
    refine m_get (idx := 18) (k := 12) (v := .ref a2) hW m_in12 (by decide) (zT_mem 1452 (by decide +kernel) rfl) rfl (by decide +kernel) ?_
    refine zV_blk (pc' := 48) (lo' := [(2, .int v2), (0, .ref am), (1, .int x1)]) (st' := [.int (v2 + 8), .ref a2, .int v2, .ref am, .int (w ((v2 + 6) : Int32).toNatClampNeg), .int (w ((v2 + 8) : Int32).toNatClampNeg)]) [.iload_n 2, .bipush 8, .iadd] (by decide +kernel) rfl ?_
    obtain ⟨hz, h⟩ := zck_some h
    refine m_wld hW hz (by decide +kernel) ?_
    refine zV_blk (pc' := 50) (lo' := [(2, .int v2), (0, .ref am), (1, .int x1)]) (st' := [.long ((w ((v2 + 8) : Int32).toNatClampNeg) : Int32).toInt64, .int v2, .ref am, .int (w ((v2 + 6) : Int32).toNatClampNeg), .int (w ((v2 + 8) : Int32).toNatClampNeg)]) [.i2l] (by decide +kernel) rfl ?_
    obtain ⟨v3, hv3, h⟩ := zbind h
    refine m_cR (idx := 244) (rest := [.int (w ((v2 + 6) : Int32).toNatClampNeg), .int (w ((v2 + 8) : Int32).toNatClampNeg)]) hW (cmstartOf s0 D cB cI cJ cD am a1 a2 a3 (upd F 0 0) G tp w oc n v2 ((w ((v2 + 8) : Int32).toNatClampNeg) : Int32).toInt64 v3 hv3) oX12_startOf rfl (zT_mem 1742 (by decide +kernel) rfl) (zT_mem 1744 (by decide +kernel) rfl) (zT_mem 56 (by decide +kernel) rfl) rfl rfl (Nat.le_of_ble_eq_true rfl) ⟨by decide, by decide⟩ (by decide +kernel) ?_
    refine zV_eq (st2 := [.long v3, .int (w ((v2 + 6) : Int32).toNatClampNeg), .int (w ((v2 + 8) : Int32).toNatClampNeg)]) rfl rfl rfl rfl ?_
    refine zV_blk (pc' := 54) (lo' := [(2, .int v2), (0, .ref am), (1, .int x1)]) (st' := [.ref am, .long v3, .int (w ((v2 + 6) : Int32).toNatClampNeg), .int (w ((v2 + 8) : Int32).toNatClampNeg)]) [.aload_n 0] (by decide +kernel) rfl ?_
    refine m_get (idx := 18) (k := 12) (v := .ref a2) hW m_in12 (by decide) (zT_mem 1452 (by decide +kernel) rfl) rfl (by decide +kernel) ?_
    refine zV_blk (pc' := 61) (lo' := [(2, .int v2), (0, .ref am), (1, .int x1)]) (st' := [.int (v2 + 6), .ref a2, .long v3, .int (w ((v2 + 6) : Int32).toNatClampNeg), .int (w ((v2 + 8) : Int32).toNatClampNeg)]) [.iload_n 2, .bipush 6, .iadd] (by decide +kernel) rfl ?_
    obtain ⟨hz, h⟩ := zck_some h
    refine m_wld hW hz (by decide +kernel) ?_
    refine zV_blk (pc' := 63) (lo' := [(2, .int v2), (0, .ref am), (1, .int x1)]) (st' := [.long ((w ((v2 + 6) : Int32).toNatClampNeg) : Int32).toInt64, .long v3, .int (w ((v2 + 6) : Int32).toNatClampNeg), .int (w ((v2 + 8) : Int32).toNatClampNeg)]) [.i2l] (by decide +kernel) rfl ?_
    obtain ⟨v4, hv4, h⟩ := zbind h
    refine zV_sC (idx := 42) (rest := [.int (w ((v2 + 6) : Int32).toNatClampNeg), .int (w ((v2 + 8) : Int32).toNatClampNeg)]) (cmgcd s0 D cB cI cJ cD n v3 ((w ((v2 + 6) : Int32).toNatClampNeg) : Int32).toInt64 v4 hv4) oX12_gcd (zT_mem 1736 (by decide +kernel) rfl) (zT_mem 1737 (by decide +kernel) rfl) rfl rfl (Nat.le_of_ble_eq_true rfl) ⟨by decide, by decide⟩ (by decide +kernel) ?_
    refine zV_eq (st2 := [.long v4, .int (w ((v2 + 6) : Int32).toNatClampNeg), .int (w ((v2 + 8) : Int32).toNatClampNeg)]) rfl rfl rfl rfl ?_
    refine zV_blk (pc' := 67) (lo' := [(2, .int v2), (0, .ref am), (1, .int x1)]) (st' := [.int (v4 : Int64).toInt32, .int (w ((v2 + 6) : Int32).toNatClampNeg), .int (w ((v2 + 8) : Int32).toNatClampNeg)]) [.l2i] (by decide +kernel) rfl ?_
    obtain ⟨hz, h⟩ := zck_some h
    refine zV_idiv (by decide +kernel) (of_decide_eq_true hz) ?_
    refine zV_blk (pc' := 69) (lo' := [(2, .int v2), (0, .ref am), (1, .int x1)]) (st' := [.int ((w ((v2 + 8) : Int32).toNatClampNeg) * ((w ((v2 + 6) : Int32).toNatClampNeg) / (v4 : Int64).toInt32))]) [.imul] (by decide +kernel) rfl ?_
    obtain rfl := Option.some.inj h
    exact zV_iret rfl (by decide +kernel) (hQ _ rfl hm hW hFr)
  · replace h := zif_neg q h
    clear q
    refine zV_blk (pc' := 14) (lo' := [(0, .ref am), (1, .int x1)]) (st' := [.int (-1)]) [.iconst (-1)] (by decide +kernel) rfl ?_
    obtain rfl := Option.some.inj h
    exact zV_iret rfl (by decide +kernel) (hQ _ rfl hm hW hFr)

def misRun (x0 : Int32) (x1 : Int32) (x2 : Int32) : Option (Bool) := (misIn (x1 : Int32).toInt64 1 (x2 : Int32).toInt64).bind (fun v1 => (if v1 = true then (misYear (x0 : Int32).toInt64).bind (fun v2 => (if v2 = true then (misYear (((x0 : Int32).toInt64 + (x1 : Int32).toInt64) - 1)).bind (fun v3 => (if v3 = true then some true else some false)) else some false)) else some false))
theorem oX12_isRun : zO yX12_isRun cX12_isRun 3 (some .boolean) 3 := ⟨zT_mem 1960 (by decide +kernel) rfl, zT_mem 94 (by decide +kernel) rfl, by decide +kernel, by decide +kernel, by decide +kernel⟩
set_option maxHeartbeats 4000000 in
set_option maxRecDepth 100000 in
theorem cmisRun (s0 : State) (D : va_G) (cB cI cJ cD : ClassId) (x0 : Int32) (x1 : Int32) (x2 : Int32) (x : Bool) (h : misRun x0 x1 x2 = some x) : sC s0 D (zty cB cI cJ cD) yX12_isRun cX12_isRun 3 (some .boolean) 2 46 [.int x0, .int x1, .int x2] (.int (zb x)) := by
  intro hi hm nx Q hQ0
  have hQ : ∀ r : Bool, x = r → Q (some (.int (zb r))) hi hm nx := fun r hr => by subst hr; exact hQ0
  refine zM_of (by decide +kernel) (Nat.le_of_ble_eq_true rfl) ?_
  unfold misRun at h
  refine zV_eq (lo2 := [(0, .int x0), (1, .int x1), (2, .int x2)]) rfl rfl rfl rfl ?_
  refine zV_blk (pc' := 5) (lo' := [(0, .int x0), (1, .int x1), (2, .int x2)]) (st' := [.long (x2 : Int32).toInt64, .long 1, .long (x1 : Int32).toInt64]) [.iload_n 1, .i2l, .lconst 1, .iload_n 2, .i2l] (by decide +kernel) rfl ?_
  obtain ⟨v1, hv1, h⟩ := zbind h
  refine zV_sC (idx := 36) (rest := []) (cmisIn s0 D cB cI cJ cD (x1 : Int32).toInt64 1 (x2 : Int32).toInt64 v1 hv1) oX12_isIn (zT_mem 1531 (by decide +kernel) rfl) (zT_mem 1532 (by decide +kernel) rfl) rfl rfl (Nat.le_of_ble_eq_true rfl) ⟨by decide, by decide⟩ (by decide +kernel) ?_
  refine zV_eq (st2 := [.int (zb v1)]) rfl rfl rfl rfl ?_
  refine zV_bif_eq (tgt := 36) (off := 28) (by decide +kernel) (by decide) (fun q => ?_) (fun q => ?_)
  · replace h := zif_neg q h
    clear q
    refine zV_blk (pc' := 37) (lo' := [(0, .int x0), (1, .int x1), (2, .int x2)]) (st' := [.int 0]) [.iconst 0] (by decide +kernel) rfl ?_
    obtain rfl := Option.some.inj h
    refine zV_eq (st2 := [.int (zb false)]) rfl rfl rfl rfl ?_
    exact zV_bret rfl (by decide +kernel) (hQ _ rfl)
  · replace h := zif_pos q h
    clear q
    refine zV_blk (pc' := 13) (lo' := [(0, .int x0), (1, .int x1), (2, .int x2)]) (st' := [.long (x0 : Int32).toInt64]) [.iload_n 0, .i2l] (by decide +kernel) rfl ?_
    obtain ⟨v2, hv2, h⟩ := zbind h
    refine zV_sC (idx := 255) (rest := []) (cmisYear s0 D cB cI cJ cD (x0 : Int32).toInt64 v2 hv2) oX12_isYear (zT_mem 1817 (by decide +kernel) rfl) (zT_mem 1818 (by decide +kernel) rfl) rfl rfl (Nat.le_of_ble_eq_true rfl) ⟨by decide, by decide⟩ (by decide +kernel) ?_
    refine zV_eq (st2 := [.int (zb v2)]) rfl rfl rfl rfl ?_
    refine zV_bif_eq (tgt := 36) (off := 20) (by decide +kernel) (by decide) (fun q => ?_) (fun q => ?_)
    · replace h := zif_neg q h
      clear q
      refine zV_blk (pc' := 37) (lo' := [(0, .int x0), (1, .int x1), (2, .int x2)]) (st' := [.int 0]) [.iconst 0] (by decide +kernel) rfl ?_
      obtain rfl := Option.some.inj h
      refine zV_eq (st2 := [.int (zb false)]) rfl rfl rfl rfl ?_
      exact zV_bret rfl (by decide +kernel) (hQ _ rfl)
    · replace h := zif_pos q h
      clear q
      refine zV_blk (pc' := 26) (lo' := [(0, .int x0), (1, .int x1), (2, .int x2)]) (st' := [.long (((x0 : Int32).toInt64 + (x1 : Int32).toInt64) - 1)]) [.iload_n 0, .i2l, .iload_n 1, .i2l, .ladd, .lconst 1, .lsub] (by decide +kernel) rfl ?_
      obtain ⟨v3, hv3, h⟩ := zbind h
      refine zV_sC (idx := 255) (rest := []) (cmisYear s0 D cB cI cJ cD (((x0 : Int32).toInt64 + (x1 : Int32).toInt64) - 1) v3 hv3) oX12_isYear (zT_mem 1817 (by decide +kernel) rfl) (zT_mem 1818 (by decide +kernel) rfl) rfl rfl (Nat.le_of_ble_eq_true rfl) ⟨by decide, by decide⟩ (by decide +kernel) ?_
      refine zV_eq (st2 := [.int (zb v3)]) rfl rfl rfl rfl ?_
      refine zV_bif_eq (tgt := 36) (off := 7) (by decide +kernel) (by decide) (fun q => ?_) (fun q => ?_)
      · replace h := zif_neg q h
        clear q
        refine zV_blk (pc' := 37) (lo' := [(0, .int x0), (1, .int x1), (2, .int x2)]) (st' := [.int 0]) [.iconst 0] (by decide +kernel) rfl ?_
        obtain rfl := Option.some.inj h
        refine zV_eq (st2 := [.int (zb false)]) rfl rfl rfl rfl ?_
        exact zV_bret rfl (by decide +kernel) (hQ _ rfl)
      · replace h := zif_pos q h
        clear q
        refine zV_blk (pc' := 33) (lo' := [(0, .int x0), (1, .int x1), (2, .int x2)]) (st' := [.int 1]) [.iconst 1] (by decide +kernel) rfl ?_
        refine zV_goto (tgt := 37) (off := 4) (by decide +kernel) (by decide) ?_
        obtain rfl := Option.some.inj h
        refine zV_eq (st2 := [.int (zb true)]) rfl rfl rfl rfl ?_
        exact zV_bret rfl (by decide +kernel) (hQ _ rfl)

def misWeekday (w : Nat → Int32) (x1 : Int32) (x2 : Int32) : Option (Bool) := zck (zin ((x1 + 6)) 35802) ((misIn (x2 : Int32).toInt64 0 (((w ((x1 + 6) : Int32).toNatClampNeg) - 1) : Int32).toInt64).bind (fun v1 => some v1))
theorem oX12_isWeekday : zO yX12_isWeekday cX12_isWeekday 3 (some .boolean) 2 := ⟨zT_mem 1968 (by decide +kernel) rfl, zT_mem 94 (by decide +kernel) rfl, by decide +kernel, by decide +kernel, by decide +kernel⟩
set_option maxHeartbeats 4000000 in
set_option maxRecDepth 100000 in
theorem cmisWeekday (s0 : State) (D : va_G) (cB cI cJ cD : ClassId) (am a1 a2 a3 : Nat) (F : Nat → Int32) (G : Nat → Int64) (tp w oc : Nat → Int32) (x1 : Int32) (x2 : Int32) (x : Bool) (h : misWeekday w x1 x2 = some x) : mR s0 D cB cI cJ cD am a1 a2 a3 yX12_isWeekday cX12_isWeekday 3 (some .boolean) 1 25 [.int x1, .int x2] F G tp w oc (some (.int (zb x))) := by
  intro hi hm nx Q hW hQ0
  have hQ : ∀ r : Bool, x = r → Q (some (.int (zb r))) hi hm nx := fun r hr => by subst hr; exact hQ0
  refine zM_of (by decide +kernel) (Nat.le_of_ble_eq_true rfl) ?_
  unfold misWeekday at h
  refine zV_eq (lo2 := [(0, .ref am), (1, .int x1), (2, .int x2)]) rfl rfl rfl rfl ?_
  refine zV_blk (pc' := 4) (lo' := [(0, .ref am), (1, .int x1), (2, .int x2)]) (st' := [.ref am, .long 0, .long (x2 : Int32).toInt64]) [.iload_n 2, .i2l, .lconst 0, .aload_n 0] (by decide +kernel) rfl ?_
  refine m_get (idx := 18) (k := 12) (v := .ref a2) hW m_in12 (by decide) (zT_mem 1452 (by decide +kernel) rfl) rfl (by decide +kernel) ?_
  refine zV_blk (pc' := 11) (lo' := [(0, .ref am), (1, .int x1), (2, .int x2)]) (st' := [.int (x1 + 6), .ref a2, .long 0, .long (x2 : Int32).toInt64]) [.iload_n 1, .bipush 6, .iadd] (by decide +kernel) rfl ?_
  obtain ⟨hz, h⟩ := zck_some h
  refine m_wld hW hz (by decide +kernel) ?_
  refine zV_blk (pc' := 15) (lo' := [(0, .ref am), (1, .int x1), (2, .int x2)]) (st' := [.long (((w ((x1 + 6) : Int32).toNatClampNeg) - 1) : Int32).toInt64, .long 0, .long (x2 : Int32).toInt64]) [.iconst 1, .isub, .i2l] (by decide +kernel) rfl ?_
  obtain ⟨v1, hv1, h⟩ := zbind h
  refine zV_sC (idx := 36) (rest := []) (cmisIn s0 D cB cI cJ cD (x2 : Int32).toInt64 0 (((w ((x1 + 6) : Int32).toNatClampNeg) - 1) : Int32).toInt64 v1 hv1) oX12_isIn (zT_mem 1531 (by decide +kernel) rfl) (zT_mem 1532 (by decide +kernel) rfl) rfl rfl (Nat.le_of_ble_eq_true rfl) ⟨by decide, by decide⟩ (by decide +kernel) ?_
  refine zV_eq (st2 := [.int (zb v1)]) rfl rfl rfl rfl ?_
  obtain rfl := Option.some.inj h
  exact zV_bret rfl (by decide +kernel) (hQ _ rfl)

