def mmonthsRead_108 (n : Nat) (F : Nat → Int32) (tp : Nat → Int32) (w : Nat → Int32) (t1 : Int32) (t2 : Int32) : Option ((Nat → Int32) × (Nat → Int32)) := (mlays F w t1 t2).bind (fun v1 => some (F, v1))
set_option maxHeartbeats 4000000 in
set_option maxRecDepth 100000 in
theorem cmmonthsRead_108 (s0 : State) (D : va_G) (cB cI cJ cD : ClassId) (am a1 a2 a3 : Nat) (F : Nat → Int32) (G : Nat → Int64) (tp w oc : Nat → Int32) (n : Nat) (t1 : Int32) (t2 : Int32) {hi hm : zHp} {nx : Nat} {Q : Option Value → zHp → zHp → Nat → Prop} {hm0 : zHp} {x : (Nat → Int32) × (Nat → Int32)} (hW : mW cB cI am a1 a2 a3 F G tp w oc hm) (hFr : mFr am a1 a2 a3 hm0 hm) (h : mmonthsRead_108 n F tp w t1 t2 = some x) (hQ : ∀ r : (Nat → Int32) × (Nat → Int32), x = r → ∀ hm', mW cB cI am a1 a2 a3 r.1 G tp r.2 oc hm' → mFr am a1 a2 a3 hm0 hm' → Q none hi hm' nx) : zV s0 D (zty cB cI cJ cD) yX12_monthsRead cX12_monthsRead 4 none 5 116 0 0 108 [] [.int t2, .int t1, .ref am] hi hm nx Q := by
  unfold mmonthsRead_108 at h
  obtain ⟨v1, hv1, h⟩ := zbind h
  refine m_cC (idx := 135) (rest := []) hW (cmlays s0 D cB cI cJ cD am a1 a2 a3 F G tp w oc t1 t2 v1 hv1) oX12_lays rfl (zT_mem 1603 (by decide +kernel) rfl) (zT_mem 1605 (by decide +kernel) rfl) (zT_mem 35 (by decide +kernel) rfl) rfl rfl (Nat.le_of_ble_eq_true rfl) ⟨by decide, by decide⟩ (by decide +kernel) (fun hm hW hFr2 => ?_)
  replace hFr := hFr.tr hFr2; clear hFr2
  refine zV_eq (st2 := []) rfl rfl rfl rfl ?_
  obtain rfl := Option.some.inj h
  exact zV_vret rfl (by decide +kernel) (hQ _ rfl hm hW hFr)
def mmonthsRead_76 (n : Nat) (F : Nat → Int32) (tp : Nat → Int32) (w : Nat → Int32) (x1 : Int32) : Option ((Nat → Int32) × (Nat → Int32)) := (mlays F w 4 x1).bind (fun v1 => (mtakes n F tp 398384).bind (fun v2 => (if v2.1 = true then (mreads n v2.2 tp 0 (x1 - 1)).bind (fun v3 => (mmonthsRead_108 n v3.2 tp v1 5 v3.1)) else (mmonthsRead_108 n v2.2 tp v1 5 (x1 - 1)))))
set_option maxHeartbeats 4000000 in
set_option maxRecDepth 100000 in
theorem cmmonthsRead_76 (s0 : State) (D : va_G) (cB cI cJ cD : ClassId) (am a1 a2 a3 : Nat) (F : Nat → Int32) (G : Nat → Int64) (tp w oc : Nat → Int32) (n : Nat) (x1 : Int32) {hi hm : zHp} {nx : Nat} {Q : Option Value → zHp → zHp → Nat → Prop} {hm0 : zHp} {x : (Nat → Int32) × (Nat → Int32)} (hW : mW cB cI am a1 a2 a3 F G tp w oc hm) (hFr : mFr am a1 a2 a3 hm0 hm) (h : mmonthsRead_76 n F tp w x1 = some x) (hQ : ∀ r : (Nat → Int32) × (Nat → Int32), x = r → ∀ hm', mW cB cI am a1 a2 a3 r.1 G tp r.2 oc hm' → mFr am a1 a2 a3 hm0 hm' → Q none hi hm' nx) : zV s0 D (zty cB cI cJ cD) yX12_monthsRead cX12_monthsRead 4 none 5 116 0 0 76 [(0, .ref am), (1, .int x1)] [] hi hm nx Q := by
  unfold mmonthsRead_76 at h
  refine zV_blk (pc' := 79) (lo' := [(0, .ref am), (1, .int x1)]) (st' := [.int x1, .int 4, .ref am]) [.aload_n 0, .iconst 4, .iload_n 1] (by decide +kernel) rfl ?_
  obtain ⟨v1, hv1, h⟩ := zbind h
  refine m_cC (idx := 135) (rest := []) hW (cmlays s0 D cB cI cJ cD am a1 a2 a3 F G tp w oc 4 x1 v1 hv1) oX12_lays rfl (zT_mem 1603 (by decide +kernel) rfl) (zT_mem 1605 (by decide +kernel) rfl) (zT_mem 35 (by decide +kernel) rfl) rfl rfl (Nat.le_of_ble_eq_true rfl) ⟨by decide, by decide⟩ (by decide +kernel) (fun hm hW hFr2 => ?_)
  replace hFr := hFr.tr hFr2; clear hFr2
  refine zV_eq (st2 := []) rfl rfl rfl rfl ?_
  refine zV_blk (pc' := 85) (lo' := [(0, .ref am), (1, .int x1)]) (st' := [.ref am, .int 5, .ref am]) [.aload_n 0, .iconst 5, .aload_n 0] (by decide +kernel) rfl ?_
  refine zV_ldc2 (idx := 163) (v := 398384) (zT_mem 1644 (by decide +kernel) rfl) (by decide +kernel) ?_
  obtain ⟨v2, hv2, h⟩ := zbind h
  refine m_cC (idx := 104) (rest := [.int 5, .ref am]) hW (cmtakes s0 D cB cI cJ cD am a1 a2 a3 F G tp v1 oc n 398384 v2 hv2) oX12_takes rfl (zT_mem 1585 (by decide +kernel) rfl) (zT_mem 1587 (by decide +kernel) rfl) (zT_mem 31 (by decide +kernel) rfl) rfl rfl (Nat.le_of_ble_eq_true rfl) ⟨by decide, by decide⟩ (by decide +kernel) (fun hm hW hFr2 => ?_)
  replace hFr := hFr.tr hFr2; clear hFr2
  refine zV_eq (st2 := [.int (zb v2.1), .int 5, .ref am]) rfl rfl rfl rfl ?_
  refine zV_bif_eq (tgt := 105) (off := 14) (by decide +kernel) (by decide) (fun q => ?_) (fun q => ?_)
  · replace h := zif_neg q h
    clear q
    refine zV_blk (pc' := 108) (lo' := [(0, .ref am), (1, .int x1)]) (st' := [.int (x1 - 1), .int 5, .ref am]) [.iload_n 1, .iconst 1, .isub] (by decide +kernel) rfl ?_
    refine zV_pick (lo2 := []) [] rfl ?_
    exact cmmonthsRead_108 s0 D cB cI cJ cD am a1 a2 a3 v2.2 G tp v1 oc n 5 (x1 - 1) hW hFr h hQ
  · replace h := zif_pos q h
    clear q
    refine zV_blk (pc' := 99) (lo' := [(0, .ref am), (1, .int x1)]) (st' := [.int (x1 - 1), .int 0, .ref am, .int 5, .ref am]) [.aload_n 0, .iconst 0, .iload_n 1, .iconst 1, .isub] (by decide +kernel) rfl ?_
    obtain ⟨v3, hv3, h⟩ := zbind h
    refine m_cC (idx := 125) (rest := [.int 5, .ref am]) hW (cmreads s0 D cB cI cJ cD am a1 a2 a3 v2.2 G tp v1 oc n 0 (x1 - 1) v3 hv3) oX12_reads rfl (zT_mem 1593 (by decide +kernel) rfl) (zT_mem 1595 (by decide +kernel) rfl) (zT_mem 33 (by decide +kernel) rfl) rfl rfl (Nat.le_of_ble_eq_true rfl) ⟨by decide, by decide⟩ (by decide +kernel) (fun hm hW hFr2 => ?_)
    replace hFr := hFr.tr hFr2; clear hFr2
    refine zV_eq (st2 := [.int v3.1, .int 5, .ref am]) rfl rfl rfl rfl ?_
    refine zV_goto (tgt := 108) (off := 6) (by decide +kernel) (by decide) ?_
    refine zV_pick (lo2 := []) [] rfl ?_
    exact cmmonthsRead_108 s0 D cB cI cJ cD am a1 a2 a3 v3.2 G tp v1 oc n 5 v3.1 hW hFr h hQ
def mmonthsRead_65 (n : Nat) (F : Nat → Int32) (tp : Nat → Int32) (w : Nat → Int32) (x1 : Int32) : Option ((Int32 × Int32 × (Nat → Int32) × (Nat → Int32)) ⊕ ((Nat → Int32) × (Nat → Int32))) := (mseesNumber n F tp).bind (fun v1 => some (.inl ((x1 + 1), (zb v1.1), v1.2, w)))
set_option maxHeartbeats 4000000 in
set_option maxRecDepth 100000 in
theorem cmmonthsRead_65 (s0 : State) (D : va_G) (cB cI cJ cD : ClassId) (am a1 a2 a3 : Nat) (F : Nat → Int32) (G : Nat → Int64) (tp w oc : Nat → Int32) (n : Nat) (x1 : Int32) {hi hm : zHp} {nx : Nat} {Q : Option Value → zHp → zHp → Nat → Prop} {hm0 : zHp} {x : (Int32 × Int32 × (Nat → Int32) × (Nat → Int32)) ⊕ ((Nat → Int32) × (Nat → Int32))} (hW : mW cB cI am a1 a2 a3 F G tp w oc hm) (hFr : mFr am a1 a2 a3 hm0 hm) (h : mmonthsRead_65 n F tp w x1 = some x) (hL12 : ∀ s : Int32 × Int32 × (Nat → Int32) × (Nat → Int32), x = (.inl s) → ∀ hm', mW cB cI am a1 a2 a3 s.2.2.1 G tp s.2.2.2 oc hm' → mFr am a1 a2 a3 hm0 hm' → zV s0 D (zty cB cI cJ cD) yX12_monthsRead cX12_monthsRead 4 none 5 116 0 0 12 [(0, .ref am), (1, .int s.1), (2, .int s.2.1)] [] hi hm' nx Q) (hQ : ∀ r : (Nat → Int32) × (Nat → Int32), x = (.inr r) → ∀ hm', mW cB cI am a1 a2 a3 r.1 G tp r.2 oc hm' → mFr am a1 a2 a3 hm0 hm' → Q none hi hm' nx) : zV s0 D (zty cB cI cJ cD) yX12_monthsRead cX12_monthsRead 4 none 5 116 0 0 65 [(0, .ref am), (1, .int x1)] [] hi hm nx Q := by
  unfold mmonthsRead_65 at h
  refine zV_blk (pc' := 69) (lo' := [(1, .int (x1 + 1)), (0, .ref am)]) (st' := [.ref am]) [.iinc 1 1, .aload_n 0] (by decide +kernel) rfl ?_
  obtain ⟨v1, hv1, h⟩ := zbind h
  refine m_cC (idx := 158) (rest := []) hW (cmseesNumber s0 D cB cI cJ cD am a1 a2 a3 F G tp w oc n  v1 hv1) oX12_seesNumber rfl (zT_mem 1635 (by decide +kernel) rfl) (zT_mem 1637 (by decide +kernel) rfl) (zT_mem 41 (by decide +kernel) rfl) rfl rfl (Nat.le_of_ble_eq_true rfl) ⟨by decide, by decide⟩ (by decide +kernel) (fun hm hW hFr2 => ?_)
  replace hFr := hFr.tr hFr2; clear hFr2
  refine zV_eq (st2 := [.int (zb v1.1)]) rfl rfl rfl rfl ?_
  refine zV_blk (pc' := 73) (lo' := [(2, .int (zb v1.1)), (1, .int (x1 + 1)), (0, .ref am)]) (st' := []) [.istore_n 2] (by decide +kernel) rfl ?_
  refine zV_goto (tgt := 12) (off := -61) (by decide +kernel) (by decide) ?_
  obtain rfl := Option.some.inj h
  refine zV_pick (lo2 := [(0, .ref am), (1, .int (x1 + 1)), (2, .int (zb v1.1))]) [2, 1, 0] rfl ?_
  exact hL12 _ rfl hm hW hFr
def mmonthsRead_47 (n : Nat) (F : Nat → Int32) (tp : Nat → Int32) (w : Nat → Int32) (x1 : Int32) (x3 : Int32) : Option ((Int32 × Int32 × (Nat → Int32) × (Nat → Int32)) ⊕ ((Nat → Int32) × (Nat → Int32))) := (misFine F).bind (fun v1 => (if v1 = true then zck (zin ((2676 + x1)) 35802) ((mmonthsRead_65 n F tp (upd w ((2676 + x1) : Int32).toNatClampNeg x3) x1)) else (mmonthsRead_65 n F tp w x1)))
set_option maxHeartbeats 4000000 in
set_option maxRecDepth 100000 in
theorem cmmonthsRead_47 (s0 : State) (D : va_G) (cB cI cJ cD : ClassId) (am a1 a2 a3 : Nat) (F : Nat → Int32) (G : Nat → Int64) (tp w oc : Nat → Int32) (n : Nat) (x1 : Int32) (x3 : Int32) {hi hm : zHp} {nx : Nat} {Q : Option Value → zHp → zHp → Nat → Prop} {hm0 : zHp} {x : (Int32 × Int32 × (Nat → Int32) × (Nat → Int32)) ⊕ ((Nat → Int32) × (Nat → Int32))} (hW : mW cB cI am a1 a2 a3 F G tp w oc hm) (hFr : mFr am a1 a2 a3 hm0 hm) (h : mmonthsRead_47 n F tp w x1 x3 = some x) (hL12 : ∀ s : Int32 × Int32 × (Nat → Int32) × (Nat → Int32), x = (.inl s) → ∀ hm', mW cB cI am a1 a2 a3 s.2.2.1 G tp s.2.2.2 oc hm' → mFr am a1 a2 a3 hm0 hm' → zV s0 D (zty cB cI cJ cD) yX12_monthsRead cX12_monthsRead 4 none 5 116 0 0 12 [(0, .ref am), (1, .int s.1), (2, .int s.2.1)] [] hi hm' nx Q) (hQ : ∀ r : (Nat → Int32) × (Nat → Int32), x = (.inr r) → ∀ hm', mW cB cI am a1 a2 a3 r.1 G tp r.2 oc hm' → mFr am a1 a2 a3 hm0 hm' → Q none hi hm' nx) : zV s0 D (zty cB cI cJ cD) yX12_monthsRead cX12_monthsRead 4 none 5 116 0 0 47 [(0, .ref am), (1, .int x1), (3, .int x3)] [] hi hm nx Q := by
  unfold mmonthsRead_47 at h
  refine zV_blk (pc' := 48) (lo' := [(0, .ref am), (1, .int x1), (3, .int x3)]) (st' := [.ref am]) [.aload_n 0] (by decide +kernel) rfl ?_
  obtain ⟨v1, hv1, h⟩ := zbind h
  refine m_cR (idx := 86) (rest := []) hW (cmisFine s0 D cB cI cJ cD am a1 a2 a3 F G tp w oc  v1 hv1) oX12_isFine rfl (zT_mem 1547 (by decide +kernel) rfl) (zT_mem 1549 (by decide +kernel) rfl) (zT_mem 23 (by decide +kernel) rfl) rfl rfl (Nat.le_of_ble_eq_true rfl) ⟨by decide, by decide⟩ (by decide +kernel) ?_
  refine zV_eq (st2 := [.int (zb v1)]) rfl rfl rfl rfl ?_
  refine zV_bif_eq (tgt := 65) (off := 14) (by decide +kernel) (by decide) (fun q => ?_) (fun q => ?_)
  · replace h := zif_neg q h
    clear q
    refine zV_pick (lo2 := [(0, .ref am), (1, .int x1)]) [0, 1] rfl ?_
    exact cmmonthsRead_65 s0 D cB cI cJ cD am a1 a2 a3 F G tp w oc n x1 hW hFr h hL12 hQ
  · replace h := zif_pos q h
    clear q
    refine zV_blk (pc' := 55) (lo' := [(0, .ref am), (1, .int x1), (3, .int x3)]) (st' := [.ref am]) [.aload_n 0] (by decide +kernel) rfl ?_
    refine m_get (idx := 18) (k := 12) (v := .ref a2) hW m_in12 (by decide) (zT_mem 1452 (by decide +kernel) rfl) rfl (by decide +kernel) ?_
    refine zV_blk (pc' := 64) (lo' := [(0, .ref am), (1, .int x1), (3, .int x3)]) (st' := [.int x3, .int (2676 + x1), .ref a2]) [.sipush 2676, .iload_n 1, .iadd, .iload_n 3] (by decide +kernel) rfl ?_
    obtain ⟨hz, h⟩ := zck_some h
    refine m_wst hW hz (by decide +kernel) (fun hm hW hFr2 => ?_)
    replace hFr := hFr.tr hFr2; clear hFr2
    refine zV_pick (lo2 := [(0, .ref am), (1, .int x1)]) [0, 1] rfl ?_
    exact cmmonthsRead_65 s0 D cB cI cJ cD am a1 a2 a3 F G tp (upd w ((2676 + x1) : Int32).toNatClampNeg x3) oc n x1 hW hFr h hL12 hQ
def mmonthsRead_12 (n : Nat) (tp : Nat → Int32) (s : Int32 × Int32 × (Nat → Int32) × (Nat → Int32)) : Option ((Int32 × Int32 × (Nat → Int32) × (Nat → Int32)) ⊕ ((Nat → Int32) × (Nat → Int32))) := (misFine s.2.2.1).bind (fun v1 => (if v1 = true then (if (s.2.1 : Int32) = (0 : Int32) then ((mmonthsRead_76 n s.2.2.1 tp s.2.2.2 s.1).map (fun z => .inr z)) else (mreads n s.2.2.1 tp 1 999).bind (fun v4 => (if (s.1 : Int32) = (15 : Int32) then (mfail v4.2 4 (v4.2 11)).bind (fun v5 => (mmonthsRead_47 n v5 tp s.2.2.2 s.1 v4.1)) else (mmonthsRead_47 n v4.2 tp s.2.2.2 s.1 v4.1)))) else ((mmonthsRead_76 n s.2.2.1 tp s.2.2.2 s.1).map (fun z => .inr z))))
set_option maxHeartbeats 4000000 in
set_option maxRecDepth 100000 in
theorem cmmonthsRead_12 (s0 : State) (D : va_G) (cB cI cJ cD : ClassId) (am a1 a2 a3 : Nat) (G : Nat → Int64) (tp : Nat → Int32) (oc : Nat → Int32) (n : Nat) (s : Int32 × Int32 × (Nat → Int32) × (Nat → Int32)) (x : (Int32 × Int32 × (Nat → Int32) × (Nat → Int32)) ⊕ ((Nat → Int32) × (Nat → Int32))) {hi hm : zHp} {nx : Nat} {Q : Option Value → zHp → zHp → Nat → Prop} {hm0 : zHp} (hW : mW cB cI am a1 a2 a3 s.2.2.1 G tp s.2.2.2 oc hm) (hFr : mFr am a1 a2 a3 hm0 hm) (h : mmonthsRead_12 n tp s = some x) (hL12 : ∀ s : Int32 × Int32 × (Nat → Int32) × (Nat → Int32), x = (.inl s) → ∀ hm', mW cB cI am a1 a2 a3 s.2.2.1 G tp s.2.2.2 oc hm' → mFr am a1 a2 a3 hm0 hm' → zV s0 D (zty cB cI cJ cD) yX12_monthsRead cX12_monthsRead 4 none 5 116 0 0 12 [(0, .ref am), (1, .int s.1), (2, .int s.2.1)] [] hi hm' nx Q) (hQ : ∀ r : (Nat → Int32) × (Nat → Int32), x = (.inr r) → ∀ hm', mW cB cI am a1 a2 a3 r.1 G tp r.2 oc hm' → mFr am a1 a2 a3 hm0 hm' → Q none hi hm' nx) : zV s0 D (zty cB cI cJ cD) yX12_monthsRead cX12_monthsRead 4 none 5 116 0 0 12 [(0, .ref am), (1, .int s.1), (2, .int s.2.1)] [] hi hm nx Q := by
  unfold mmonthsRead_12 at h
  refine zV_blk (pc' := 13) (lo' := [(0, .ref am), (1, .int s.1), (2, .int s.2.1)]) (st' := [.ref am]) [.aload_n 0] (by decide +kernel) rfl ?_
  obtain ⟨v1, hv1, h⟩ := zbind h
  refine m_cR (idx := 86) (rest := []) hW (cmisFine s0 D cB cI cJ cD am a1 a2 a3 s.2.2.1 G tp s.2.2.2 oc  v1 hv1) oX12_isFine rfl (zT_mem 1547 (by decide +kernel) rfl) (zT_mem 1549 (by decide +kernel) rfl) (zT_mem 23 (by decide +kernel) rfl) rfl rfl (Nat.le_of_ble_eq_true rfl) ⟨by decide, by decide⟩ (by decide +kernel) ?_
  refine zV_eq (st2 := [.int (zb v1)]) rfl rfl rfl rfl ?_
  refine zV_bif_eq (tgt := 76) (off := 60) (by decide +kernel) (by decide) (fun q => ?_) (fun q => ?_)
  · replace h := zif_neg q h
    clear q
    obtain ⟨z2, h9, hx⟩ := zmap h
    clear h; subst hx; have h := h9; clear h9
    refine zV_pick (lo2 := [(0, .ref am), (1, .int s.1)]) [0, 1] rfl ?_
    exact cmmonthsRead_76 s0 D cB cI cJ cD am a1 a2 a3 s.2.2.1 G tp s.2.2.2 oc n s.1 hW hFr h (fun r hr => hQ r (by rw [hr]))
  · replace h := zif_pos q h
    clear q
    refine zV_blk (pc' := 20) (lo' := [(0, .ref am), (1, .int s.1), (2, .int s.2.1)]) (st' := [.int s.2.1]) [.iload_n 2] (by decide +kernel) rfl ?_
    refine zV_if_eq (tgt := 76) (off := 56) (by decide +kernel) (by decide) (fun q => ?_) (fun q => ?_)
    · replace h := zif_pos q h
      clear q
      obtain ⟨z3, h9, hx⟩ := zmap h
      clear h; subst hx; have h := h9; clear h9
      refine zV_pick (lo2 := [(0, .ref am), (1, .int s.1)]) [0, 1] rfl ?_
      exact cmmonthsRead_76 s0 D cB cI cJ cD am a1 a2 a3 s.2.2.1 G tp s.2.2.2 oc n s.1 hW hFr h (fun r hr => hQ r (by rw [hr]))
    · replace h := zif_neg q h
      clear q
      refine zV_blk (pc' := 28) (lo' := [(0, .ref am), (1, .int s.1), (2, .int s.2.1)]) (st' := [.int 999, .int 1, .ref am]) [.aload_n 0, .iconst 1, .sipush 999] (by decide +kernel) rfl ?_
      obtain ⟨v4, hv4, h⟩ := zbind h
      refine m_cC (idx := 125) (rest := []) hW (cmreads s0 D cB cI cJ cD am a1 a2 a3 s.2.2.1 G tp s.2.2.2 oc n 1 999 v4 hv4) oX12_reads rfl (zT_mem 1593 (by decide +kernel) rfl) (zT_mem 1595 (by decide +kernel) rfl) (zT_mem 33 (by decide +kernel) rfl) rfl rfl (Nat.le_of_ble_eq_true rfl) ⟨by decide, by decide⟩ (by decide +kernel) (fun hm hW hFr2 => ?_)
      replace hFr := hFr.tr hFr2; clear hFr2
      refine zV_eq (st2 := [.int v4.1]) rfl rfl rfl rfl ?_
      refine zV_blk (pc' := 35) (lo' := [(3, .int v4.1), (0, .ref am), (1, .int s.1), (2, .int s.2.1)]) (st' := [.int 15, .int s.1]) [.istore_n 3, .iload_n 1, .bipush 15] (by decide +kernel) rfl ?_
      refine zV_icmp_ne (tgt := 47) (off := 12) (by decide +kernel) (by decide) (fun q => ?_) (fun q => ?_)
      · replace h := zif_neg q h
        clear q
        refine zV_pick (lo2 := [(0, .ref am), (1, .int s.1), (3, .int v4.1)]) [1, 2, 0] rfl ?_
        exact cmmonthsRead_47 s0 D cB cI cJ cD am a1 a2 a3 v4.2 G tp s.2.2.2 oc n s.1 v4.1 hW hFr h hL12 hQ
      · replace h := zif_pos q h
        clear q
        refine zV_blk (pc' := 41) (lo' := [(3, .int v4.1), (0, .ref am), (1, .int s.1), (2, .int s.2.1)]) (st' := [.ref am, .int 4, .ref am]) [.aload_n 0, .iconst 4, .aload_n 0] (by decide +kernel) rfl ?_
        refine m_get (idx := 113) (k := 11) (v := .int (v4.2 11)) hW m_in12 (by decide) (zT_mem 1451 (by decide +kernel) rfl) rfl (by decide +kernel) ?_
        obtain ⟨v5, hv5, h⟩ := zbind h
        refine m_cC (idx := 79) (rest := []) hW (cmfail s0 D cB cI cJ cD am a1 a2 a3 v4.2 G tp s.2.2.2 oc 4 (v4.2 11) v5 hv5) oX12_fail rfl (zT_mem 1581 (by decide +kernel) rfl) (zT_mem 1583 (by decide +kernel) rfl) (zT_mem 30 (by decide +kernel) rfl) rfl rfl (Nat.le_of_ble_eq_true rfl) ⟨by decide, by decide⟩ (by decide +kernel) (fun hm hW hFr2 => ?_)
        replace hFr := hFr.tr hFr2; clear hFr2
        refine zV_eq (st2 := []) rfl rfl rfl rfl ?_
        refine zV_pick (lo2 := [(0, .ref am), (1, .int s.1), (3, .int v4.1)]) [1, 2, 0] rfl ?_
        exact cmmonthsRead_47 s0 D cB cI cJ cD am a1 a2 a3 v5 G tp s.2.2.2 oc n s.1 v4.1 hW hFr h hL12 hQ
theorem cmmonthsRead_12L (s0 : State) (D : va_G) (cB cI cJ cD : ClassId) (am a1 a2 a3 : Nat) (G : Nat → Int64) (tp : Nat → Int32) (oc : Nat → Int32) (n : Nat) : ∀ (k : Nat) (s : Int32 × Int32 × (Nat → Int32) × (Nat → Int32)) {hi hm : zHp} {nx : Nat} {Q : Option Value → zHp → zHp → Nat → Prop} {hm0 : zHp} (_ : mW cB cI am a1 a2 a3 s.2.2.1 G tp s.2.2.2 oc hm) (_ : mFr am a1 a2 a3 hm0 hm) {x : (Nat → Int32) × (Nat → Int32)} (_ : zloop (mmonthsRead_12 n tp) k s = some x) (hQ : ∀ r : (Nat → Int32) × (Nat → Int32), x = r → ∀ hm', mW cB cI am a1 a2 a3 r.1 G tp r.2 oc hm' → mFr am a1 a2 a3 hm0 hm' → Q none hi hm' nx), zV s0 D (zty cB cI cJ cD) yX12_monthsRead cX12_monthsRead 4 none 5 116 0 0 12 [(0, .ref am), (1, .int s.1), (2, .int s.2.1)] [] hi hm nx Q
  | 0, s, _, _, _, _, _, hW, hFr, _, h, _ => by cases h
  | k + 1, s, hi, hm, nx, Q, hm0, hW, hFr, x, h, hQ => by
    obtain ⟨z, hz, h1, h2⟩ := zloop_succ h
    exact cmmonthsRead_12 s0 D cB cI cJ cD am a1 a2 a3 G tp oc n  s z hW hFr hz (fun s' hs hm' hW' hFr' => cmmonthsRead_12L s0 D cB cI cJ cD am a1 a2 a3 G tp oc n  k s' hW' hFr' (h1 s' hs) hQ) (fun r hr hm' hW' hFr' => hQ r (h2 _ hr).symm hm' hW' hFr')
def mmonthsRead (n : Nat) (F : Nat → Int32) (tp : Nat → Int32) (w : Nat → Int32) : Option ((Nat → Int32) × (Nat → Int32)) := (monce n F tp 3 452415763).bind (fun v1 => (zloop (mmonthsRead_12 n tp) n (0, 1, v1, w)))
theorem oX12_monthsRead : zO yX12_monthsRead cX12_monthsRead 4 none 0 := ⟨zT_mem 1643 (by decide +kernel) rfl, zT_mem 94 (by decide +kernel) rfl, by decide +kernel, by decide +kernel, by decide +kernel⟩
set_option maxHeartbeats 4000000 in
set_option maxRecDepth 100000 in
theorem cmmonthsRead (s0 : State) (D : va_G) (cB cI cJ cD : ClassId) (am a1 a2 a3 : Nat) (F : Nat → Int32) (G : Nat → Int64) (tp w oc : Nat → Int32) (n : Nat) (x : (Nat → Int32) × (Nat → Int32)) (h : mmonthsRead n F tp w = some x) : mC s0 D cB cI cJ cD am a1 a2 a3 yX12_monthsRead cX12_monthsRead 4 none 5 116 [] F G tp w oc none x.1 G tp x.2 oc := by
  intro hi hm nx Q hW hQ0
  have hQ : ∀ r : (Nat → Int32) × (Nat → Int32), x = r → ∀ hm', mW cB cI am a1 a2 a3 r.1 G tp r.2 oc hm' → mFr am a1 a2 a3 hm hm' → Q none hi hm' nx := fun r hr => by subst hr; exact hQ0
  have hFr : mFr am a1 a2 a3 hm hm := mFr.rf
  clear hQ0
  refine zM_of (by decide +kernel) (Nat.le_of_ble_eq_true rfl) ?_
  unfold mmonthsRead at h
  refine zV_eq (lo2 := [(0, .ref am)]) rfl rfl rfl rfl ?_
  refine zV_blk (pc' := 2) (lo' := [(0, .ref am)]) (st' := [.int 3, .ref am]) [.aload_n 0, .iconst 3] (by decide +kernel) rfl ?_
  refine zV_ldc2 (idx := 161) (v := 452415763) (zT_mem 1639 (by decide +kernel) rfl) (by decide +kernel) ?_
  obtain ⟨v1, hv1, h⟩ := zbind h
  refine m_cC (idx := 140) (rest := []) hW (cmonce s0 D cB cI cJ cD am a1 a2 a3 F G tp w oc n 3 452415763 v1 hv1) oX12_once rfl (zT_mem 1577 (by decide +kernel) rfl) (zT_mem 1579 (by decide +kernel) rfl) (zT_mem 29 (by decide +kernel) rfl) rfl rfl (Nat.le_of_ble_eq_true rfl) ⟨by decide, by decide⟩ (by decide +kernel) (fun hm hW hFr2 => ?_)
  replace hFr := hFr.tr hFr2; clear hFr2
  refine zV_eq (st2 := []) rfl rfl rfl rfl ?_
  refine zV_blk (pc' := 12) (lo' := [(2, .int 1), (1, .int 0), (0, .ref am)]) (st' := []) [.iconst 0, .istore_n 1, .iconst 1, .istore_n 2] (by decide +kernel) rfl ?_
  refine zV_pick (lo2 := [(0, .ref am), (1, .int 0), (2, .int 1)]) [2, 1, 0] rfl ?_
  exact cmmonthsRead_12L s0 D cB cI cJ cD am a1 a2 a3 G tp oc n  n (0, 1, v1, w) hW hFr h hQ

def mweekRead (n : Nat) (F : Nat → Int32) (tp : Nat → Int32) (w : Nat → Int32) : Option ((Nat → Int32) × (Nat → Int32)) := (monce n F tp 4 758955).bind (fun v1 => (mreads n v1 tp 1 10).bind (fun v2 => (mneeds n v2.2 tp 52).bind (fun v3 => (mlays v3 w 6 v2.1).bind (fun v4 => (mreads n v3 tp 0 (v2.1 - 1)).bind (fun v5 => (mlays v5.2 v4 7 v5.1).bind (fun v6 => some (v5.2, v6)))))))
theorem oX12_weekRead : zO yX12_weekRead cX12_weekRead 2 none 0 := ⟨zT_mem 1649 (by decide +kernel) rfl, zT_mem 94 (by decide +kernel) rfl, by decide +kernel, by decide +kernel, by decide +kernel⟩
set_option maxHeartbeats 4000000 in
set_option maxRecDepth 100000 in
theorem cmweekRead (s0 : State) (D : va_G) (cB cI cJ cD : ClassId) (am a1 a2 a3 : Nat) (F : Nat → Int32) (G : Nat → Int64) (tp w oc : Nat → Int32) (n : Nat) (x : (Nat → Int32) × (Nat → Int32)) (h : mweekRead n F tp w = some x) : mC s0 D cB cI cJ cD am a1 a2 a3 yX12_weekRead cX12_weekRead 2 none 5 116 [] F G tp w oc none x.1 G tp x.2 oc := by
  intro hi hm nx Q hW hQ0
  have hQ : ∀ r : (Nat → Int32) × (Nat → Int32), x = r → ∀ hm', mW cB cI am a1 a2 a3 r.1 G tp r.2 oc hm' → mFr am a1 a2 a3 hm hm' → Q none hi hm' nx := fun r hr => by subst hr; exact hQ0
  have hFr : mFr am a1 a2 a3 hm hm := mFr.rf
  clear hQ0
  refine zM_of (by decide +kernel) (Nat.le_of_ble_eq_true rfl) ?_
  unfold mweekRead at h
  refine zV_eq (lo2 := [(0, .ref am)]) rfl rfl rfl rfl ?_
  refine zV_blk (pc' := 2) (lo' := [(0, .ref am)]) (st' := [.int 4, .ref am]) [.aload_n 0, .iconst 4] (by decide +kernel) rfl ?_
  refine zV_ldc2 (idx := 165) (v := 758955) (zT_mem 1645 (by decide +kernel) rfl) (by decide +kernel) ?_
  obtain ⟨v1, hv1, h⟩ := zbind h
  refine m_cC (idx := 140) (rest := []) hW (cmonce s0 D cB cI cJ cD am a1 a2 a3 F G tp w oc n 4 758955 v1 hv1) oX12_once rfl (zT_mem 1577 (by decide +kernel) rfl) (zT_mem 1579 (by decide +kernel) rfl) (zT_mem 29 (by decide +kernel) rfl) rfl rfl (Nat.le_of_ble_eq_true rfl) ⟨by decide, by decide⟩ (by decide +kernel) (fun hm hW hFr2 => ?_)
  replace hFr := hFr.tr hFr2; clear hFr2
  refine zV_eq (st2 := []) rfl rfl rfl rfl ?_
  refine zV_blk (pc' := 12) (lo' := [(0, .ref am)]) (st' := [.int 10, .int 1, .ref am]) [.aload_n 0, .iconst 1, .bipush 10] (by decide +kernel) rfl ?_
  obtain ⟨v2, hv2, h⟩ := zbind h
  refine m_cC (idx := 125) (rest := []) hW (cmreads s0 D cB cI cJ cD am a1 a2 a3 v1 G tp w oc n 1 10 v2 hv2) oX12_reads rfl (zT_mem 1593 (by decide +kernel) rfl) (zT_mem 1595 (by decide +kernel) rfl) (zT_mem 33 (by decide +kernel) rfl) rfl rfl (Nat.le_of_ble_eq_true rfl) ⟨by decide, by decide⟩ (by decide +kernel) (fun hm hW hFr2 => ?_)
  replace hFr := hFr.tr hFr2; clear hFr2
  refine zV_eq (st2 := [.int v2.1]) rfl rfl rfl rfl ?_
  refine zV_blk (pc' := 17) (lo' := [(1, .int v2.1), (0, .ref am)]) (st' := [.ref am]) [.istore_n 1, .aload_n 0] (by decide +kernel) rfl ?_
  refine zV_ldc2 (idx := 167) (v := 52) (zT_mem 1650 (by decide +kernel) rfl) (by decide +kernel) ?_
  obtain ⟨v3, hv3, h⟩ := zbind h
  refine m_cC (idx := 131) (rest := []) hW (cmneeds s0 D cB cI cJ cD am a1 a2 a3 v2.2 G tp w oc n 52 v3 hv3) oX12_needs rfl (zT_mem 1618 (by decide +kernel) rfl) (zT_mem 1620 (by decide +kernel) rfl) (zT_mem 38 (by decide +kernel) rfl) rfl rfl (Nat.le_of_ble_eq_true rfl) ⟨by decide, by decide⟩ (by decide +kernel) (fun hm hW hFr2 => ?_)
  replace hFr := hFr.tr hFr2; clear hFr2
  refine zV_eq (st2 := []) rfl rfl rfl rfl ?_
  refine zV_blk (pc' := 27) (lo' := [(1, .int v2.1), (0, .ref am)]) (st' := [.int v2.1, .int 6, .ref am]) [.aload_n 0, .bipush 6, .iload_n 1] (by decide +kernel) rfl ?_
  obtain ⟨v4, hv4, h⟩ := zbind h
  refine m_cC (idx := 135) (rest := []) hW (cmlays s0 D cB cI cJ cD am a1 a2 a3 v3 G tp w oc 6 v2.1 v4 hv4) oX12_lays rfl (zT_mem 1603 (by decide +kernel) rfl) (zT_mem 1605 (by decide +kernel) rfl) (zT_mem 35 (by decide +kernel) rfl) rfl rfl (Nat.le_of_ble_eq_true rfl) ⟨by decide, by decide⟩ (by decide +kernel) (fun hm hW hFr2 => ?_)
  replace hFr := hFr.tr hFr2; clear hFr2
  refine zV_eq (st2 := []) rfl rfl rfl rfl ?_
  refine zV_blk (pc' := 38) (lo' := [(1, .int v2.1), (0, .ref am)]) (st' := [.int (v2.1 - 1), .int 0, .ref am, .int 7, .ref am]) [.aload_n 0, .bipush 7, .aload_n 0, .iconst 0, .iload_n 1, .iconst 1, .isub] (by decide +kernel) rfl ?_
  obtain ⟨v5, hv5, h⟩ := zbind h
  refine m_cC (idx := 125) (rest := [.int 7, .ref am]) hW (cmreads s0 D cB cI cJ cD am a1 a2 a3 v3 G tp v4 oc n 0 (v2.1 - 1) v5 hv5) oX12_reads rfl (zT_mem 1593 (by decide +kernel) rfl) (zT_mem 1595 (by decide +kernel) rfl) (zT_mem 33 (by decide +kernel) rfl) rfl rfl (Nat.le_of_ble_eq_true rfl) ⟨by decide, by decide⟩ (by decide +kernel) (fun hm hW hFr2 => ?_)
  replace hFr := hFr.tr hFr2; clear hFr2
  refine zV_eq (st2 := [.int v5.1, .int 7, .ref am]) rfl rfl rfl rfl ?_
  obtain ⟨v6, hv6, h⟩ := zbind h
  refine m_cC (idx := 135) (rest := []) hW (cmlays s0 D cB cI cJ cD am a1 a2 a3 v5.2 G tp v4 oc 7 v5.1 v6 hv6) oX12_lays rfl (zT_mem 1603 (by decide +kernel) rfl) (zT_mem 1605 (by decide +kernel) rfl) (zT_mem 35 (by decide +kernel) rfl) rfl rfl (Nat.le_of_ble_eq_true rfl) ⟨by decide, by decide⟩ (by decide +kernel) (fun hm hW hFr2 => ?_)
  replace hFr := hFr.tr hFr2; clear hFr2
  refine zV_eq (st2 := []) rfl rfl rfl rfl ?_
  obtain rfl := Option.some.inj h
  exact zV_vret rfl (by decide +kernel) (hQ _ rfl hm hW hFr)

def mtrueRead (n : Nat) (F : Nat → Int32) (tp : Nat → Int32) (w : Nat → Int32) : Option ((Nat → Int32) × (Nat → Int32)) := (monce n F tp 5 674469).bind (fun v1 => (mreads n v1 tp 0 999).bind (fun v2 => (mlays v2.2 w 12 v2.1).bind (fun v3 => (mneeds n v2.2 tp 1476).bind (fun v4 => (mshares n v4 tp v3 13 14 1000000 1).bind (fun v5 => some (v5.1, v5.2))))))
theorem oX12_trueRead : zO yX12_trueRead cX12_trueRead 1 none 0 := ⟨zT_mem 1655 (by decide +kernel) rfl, zT_mem 94 (by decide +kernel) rfl, by decide +kernel, by decide +kernel, by decide +kernel⟩
set_option maxHeartbeats 4000000 in
set_option maxRecDepth 100000 in
theorem cmtrueRead (s0 : State) (D : va_G) (cB cI cJ cD : ClassId) (am a1 a2 a3 : Nat) (F : Nat → Int32) (G : Nat → Int64) (tp w oc : Nat → Int32) (n : Nat) (x : (Nat → Int32) × (Nat → Int32)) (h : mtrueRead n F tp w = some x) : mC s0 D cB cI cJ cD am a1 a2 a3 yX12_trueRead cX12_trueRead 1 none 6 142 [] F G tp w oc none x.1 G tp x.2 oc := by
  intro hi hm nx Q hW hQ0
  have hQ : ∀ r : (Nat → Int32) × (Nat → Int32), x = r → ∀ hm', mW cB cI am a1 a2 a3 r.1 G tp r.2 oc hm' → mFr am a1 a2 a3 hm hm' → Q none hi hm' nx := fun r hr => by subst hr; exact hQ0
  have hFr : mFr am a1 a2 a3 hm hm := mFr.rf
  clear hQ0
  refine zM_of (by decide +kernel) (Nat.le_of_ble_eq_true rfl) ?_
  unfold mtrueRead at h
  refine zV_eq (lo2 := [(0, .ref am)]) rfl rfl rfl rfl ?_
  refine zV_blk (pc' := 2) (lo' := [(0, .ref am)]) (st' := [.int 5, .ref am]) [.aload_n 0, .iconst 5] (by decide +kernel) rfl ?_
  refine zV_ldc2 (idx := 169) (v := 674469) (zT_mem 1651 (by decide +kernel) rfl) (by decide +kernel) ?_
  obtain ⟨v1, hv1, h⟩ := zbind h
  refine m_cC (idx := 140) (rest := []) hW (cmonce s0 D cB cI cJ cD am a1 a2 a3 F G tp w oc n 5 674469 v1 hv1) oX12_once rfl (zT_mem 1577 (by decide +kernel) rfl) (zT_mem 1579 (by decide +kernel) rfl) (zT_mem 29 (by decide +kernel) rfl) rfl rfl (Nat.le_of_ble_eq_true rfl) ⟨by decide, by decide⟩ (by decide +kernel) (fun hm hW hFr2 => ?_)
  replace hFr := hFr.tr hFr2; clear hFr2
  refine zV_eq (st2 := []) rfl rfl rfl rfl ?_
  refine zV_blk (pc' := 16) (lo' := [(0, .ref am)]) (st' := [.int 999, .int 0, .ref am, .int 12, .ref am]) [.aload_n 0, .bipush 12, .aload_n 0, .iconst 0, .sipush 999] (by decide +kernel) rfl ?_
  obtain ⟨v2, hv2, h⟩ := zbind h
  refine m_cC (idx := 125) (rest := [.int 12, .ref am]) hW (cmreads s0 D cB cI cJ cD am a1 a2 a3 v1 G tp w oc n 0 999 v2 hv2) oX12_reads rfl (zT_mem 1593 (by decide +kernel) rfl) (zT_mem 1595 (by decide +kernel) rfl) (zT_mem 33 (by decide +kernel) rfl) rfl rfl (Nat.le_of_ble_eq_true rfl) ⟨by decide, by decide⟩ (by decide +kernel) (fun hm hW hFr2 => ?_)
  replace hFr := hFr.tr hFr2; clear hFr2
  refine zV_eq (st2 := [.int v2.1, .int 12, .ref am]) rfl rfl rfl rfl ?_
  obtain ⟨v3, hv3, h⟩ := zbind h
  refine m_cC (idx := 135) (rest := []) hW (cmlays s0 D cB cI cJ cD am a1 a2 a3 v2.2 G tp w oc 12 v2.1 v3 hv3) oX12_lays rfl (zT_mem 1603 (by decide +kernel) rfl) (zT_mem 1605 (by decide +kernel) rfl) (zT_mem 35 (by decide +kernel) rfl) rfl rfl (Nat.le_of_ble_eq_true rfl) ⟨by decide, by decide⟩ (by decide +kernel) (fun hm hW hFr2 => ?_)
  replace hFr := hFr.tr hFr2; clear hFr2
  refine zV_eq (st2 := []) rfl rfl rfl rfl ?_
  refine zV_blk (pc' := 23) (lo' := [(0, .ref am)]) (st' := [.ref am]) [.aload_n 0] (by decide +kernel) rfl ?_
  refine zV_ldc2 (idx := 171) (v := 1476) (zT_mem 1656 (by decide +kernel) rfl) (by decide +kernel) ?_
  obtain ⟨v4, hv4, h⟩ := zbind h
  refine m_cC (idx := 131) (rest := []) hW (cmneeds s0 D cB cI cJ cD am a1 a2 a3 v2.2 G tp v3 oc n 1476 v4 hv4) oX12_needs rfl (zT_mem 1618 (by decide +kernel) rfl) (zT_mem 1620 (by decide +kernel) rfl) (zT_mem 38 (by decide +kernel) rfl) rfl rfl (Nat.le_of_ble_eq_true rfl) ⟨by decide, by decide⟩ (by decide +kernel) (fun hm hW hFr2 => ?_)
  replace hFr := hFr.tr hFr2; clear hFr2
  refine zV_eq (st2 := []) rfl rfl rfl rfl ?_
  refine zV_blk (pc' := 34) (lo' := [(0, .ref am)]) (st' := [.int 14, .int 13, .ref am]) [.aload_n 0, .bipush 13, .bipush 14] (by decide +kernel) rfl ?_
  refine zV_ldc (idx := 173) (v := 1000000) (zT_mem 1657 (by decide +kernel) rfl) (by decide +kernel) ?_
  refine zV_blk (pc' := 37) (lo' := [(0, .ref am)]) (st' := [.int 1, .int 1000000, .int 14, .int 13, .ref am]) [.iconst 1] (by decide +kernel) rfl ?_
  obtain ⟨v5, hv5, h⟩ := zbind h
  refine m_cC (idx := 144) (rest := []) hW (cmshares s0 D cB cI cJ cD am a1 a2 a3 v4 G tp v3 oc n 13 14 1000000 1 v5 hv5) oX12_shares rfl (zT_mem 1613 (by decide +kernel) rfl) (zT_mem 1615 (by decide +kernel) rfl) (zT_mem 37 (by decide +kernel) rfl) rfl rfl (Nat.le_of_ble_eq_true rfl) ⟨by decide, by decide⟩ (by decide +kernel) (fun hm hW hFr2 => ?_)
  replace hFr := hFr.tr hFr2; clear hFr2
  refine zV_eq (st2 := []) rfl rfl rfl rfl ?_
  obtain rfl := Option.some.inj h
  exact zV_vret rfl (by decide +kernel) (hQ _ rfl hm hW hFr)

def mbeginsRead (n : Nat) (F : Nat → Int32) (tp : Nat → Int32) (w : Nat → Int32) : Option ((Nat → Int32) × (Nat → Int32)) := (monce n F tp 6 72590803).bind (fun v1 => (mshares n v1 tp w 15 16 1000 1).bind (fun v2 => some (v2.1, v2.2)))
theorem oX12_beginsRead : zO yX12_beginsRead cX12_beginsRead 1 none 0 := ⟨zT_mem 1662 (by decide +kernel) rfl, zT_mem 94 (by decide +kernel) rfl, by decide +kernel, by decide +kernel, by decide +kernel⟩
set_option maxHeartbeats 4000000 in
set_option maxRecDepth 100000 in
theorem cmbeginsRead (s0 : State) (D : va_G) (cB cI cJ cD : ClassId) (am a1 a2 a3 : Nat) (F : Nat → Int32) (G : Nat → Int64) (tp w oc : Nat → Int32) (n : Nat) (x : (Nat → Int32) × (Nat → Int32)) (h : mbeginsRead n F tp w = some x) : mC s0 D cB cI cJ cD am a1 a2 a3 yX12_beginsRead cX12_beginsRead 1 none 6 142 [] F G tp w oc none x.1 G tp x.2 oc := by
  intro hi hm nx Q hW hQ0
  have hQ : ∀ r : (Nat → Int32) × (Nat → Int32), x = r → ∀ hm', mW cB cI am a1 a2 a3 r.1 G tp r.2 oc hm' → mFr am a1 a2 a3 hm hm' → Q none hi hm' nx := fun r hr => by subst hr; exact hQ0
  have hFr : mFr am a1 a2 a3 hm hm := mFr.rf
  clear hQ0
  refine zM_of (by decide +kernel) (Nat.le_of_ble_eq_true rfl) ?_
  unfold mbeginsRead at h
  refine zV_eq (lo2 := [(0, .ref am)]) rfl rfl rfl rfl ?_
  refine zV_blk (pc' := 3) (lo' := [(0, .ref am)]) (st' := [.int 6, .ref am]) [.aload_n 0, .bipush 6] (by decide +kernel) rfl ?_
  refine zV_ldc2 (idx := 174) (v := 72590803) (zT_mem 1658 (by decide +kernel) rfl) (by decide +kernel) ?_
  obtain ⟨v1, hv1, h⟩ := zbind h
  refine m_cC (idx := 140) (rest := []) hW (cmonce s0 D cB cI cJ cD am a1 a2 a3 F G tp w oc n 6 72590803 v1 hv1) oX12_once rfl (zT_mem 1577 (by decide +kernel) rfl) (zT_mem 1579 (by decide +kernel) rfl) (zT_mem 29 (by decide +kernel) rfl) rfl rfl (Nat.le_of_ble_eq_true rfl) ⟨by decide, by decide⟩ (by decide +kernel) (fun hm hW hFr2 => ?_)
  replace hFr := hFr.tr hFr2; clear hFr2
  refine zV_eq (st2 := []) rfl rfl rfl rfl ?_
  refine zV_blk (pc' := 18) (lo' := [(0, .ref am)]) (st' := [.int 1, .int 1000, .int 16, .int 15, .ref am]) [.aload_n 0, .bipush 15, .bipush 16, .sipush 1000, .iconst 1] (by decide +kernel) rfl ?_
  obtain ⟨v2, hv2, h⟩ := zbind h
  refine m_cC (idx := 144) (rest := []) hW (cmshares s0 D cB cI cJ cD am a1 a2 a3 v1 G tp w oc n 15 16 1000 1 v2 hv2) oX12_shares rfl (zT_mem 1613 (by decide +kernel) rfl) (zT_mem 1615 (by decide +kernel) rfl) (zT_mem 37 (by decide +kernel) rfl) rfl rfl (Nat.le_of_ble_eq_true rfl) ⟨by decide, by decide⟩ (by decide +kernel) (fun hm hW hFr2 => ?_)
  replace hFr := hFr.tr hFr2; clear hFr2
  refine zV_eq (st2 := []) rfl rfl rfl rfl ?_
  obtain rfl := Option.some.inj h
  exact zV_vret rfl (by decide +kernel) (hQ _ rfl hm hW hFr)

def mnumberTold (n : Nat) (F : Nat → Int32) (tp : Nat → Int32) (w : Nat → Int32) (x1 : Int32) (x2 : Int64) (x4 : Int32) (x5 : Int32) : Option ((Nat → Int32) × (Nat → Int32)) := (monce n F tp x1 x2).bind (fun v1 => (mreads n v1 tp 1 x5).bind (fun v2 => (mlays v2.2 w x4 v2.1).bind (fun v3 => some (v2.2, v3))))
theorem oX12_numberTold : zO yX12_numberTold cX12_numberTold 6 none 4 := ⟨zT_mem 1576 (by decide +kernel) rfl, zT_mem 94 (by decide +kernel) rfl, by decide +kernel, by decide +kernel, by decide +kernel⟩
set_option maxHeartbeats 4000000 in
set_option maxRecDepth 100000 in
theorem cmnumberTold (s0 : State) (D : va_G) (cB cI cJ cD : ClassId) (am a1 a2 a3 : Nat) (F : Nat → Int32) (G : Nat → Int64) (tp w oc : Nat → Int32) (n : Nat) (x1 : Int32) (x2 : Int64) (x4 : Int32) (x5 : Int32) (x : (Nat → Int32) × (Nat → Int32)) (h : mnumberTold n F tp w x1 x2 x4 x5 = some x) : mC s0 D cB cI cJ cD am a1 a2 a3 yX12_numberTold cX12_numberTold 6 none 5 116 [.int x1, .long x2, .int x4, .int x5] F G tp w oc none x.1 G tp x.2 oc := by
  intro hi hm nx Q hW hQ0
  have hQ : ∀ r : (Nat → Int32) × (Nat → Int32), x = r → ∀ hm', mW cB cI am a1 a2 a3 r.1 G tp r.2 oc hm' → mFr am a1 a2 a3 hm hm' → Q none hi hm' nx := fun r hr => by subst hr; exact hQ0
  have hFr : mFr am a1 a2 a3 hm hm := mFr.rf
  clear hQ0
  refine zM_of (by decide +kernel) (Nat.le_of_ble_eq_true rfl) ?_
  unfold mnumberTold at h
  refine zV_eq (lo2 := [(0, .ref am), (1, .int x1), (2, .long x2), (4, .int x4), (5, .int x5)]) rfl rfl rfl rfl ?_
  refine zV_blk (pc' := 3) (lo' := [(0, .ref am), (1, .int x1), (2, .long x2), (4, .int x4), (5, .int x5)]) (st' := [.long x2, .int x1, .ref am]) [.aload_n 0, .iload_n 1, .lload_n 2] (by decide +kernel) rfl ?_
  obtain ⟨v1, hv1, h⟩ := zbind h
  refine m_cC (idx := 140) (rest := []) hW (cmonce s0 D cB cI cJ cD am a1 a2 a3 F G tp w oc n x1 x2 v1 hv1) oX12_once rfl (zT_mem 1577 (by decide +kernel) rfl) (zT_mem 1579 (by decide +kernel) rfl) (zT_mem 29 (by decide +kernel) rfl) rfl rfl (Nat.le_of_ble_eq_true rfl) ⟨by decide, by decide⟩ (by decide +kernel) (fun hm hW hFr2 => ?_)
  replace hFr := hFr.tr hFr2; clear hFr2
  refine zV_eq (st2 := []) rfl rfl rfl rfl ?_
  refine zV_blk (pc' := 13) (lo' := [(0, .ref am), (1, .int x1), (2, .long x2), (4, .int x4), (5, .int x5)]) (st' := [.int x5, .int 1, .ref am, .int x4, .ref am]) [.aload_n 0, .iload 4, .aload_n 0, .iconst 1, .iload 5] (by decide +kernel) rfl ?_
  obtain ⟨v2, hv2, h⟩ := zbind h
  refine m_cC (idx := 125) (rest := [.int x4, .ref am]) hW (cmreads s0 D cB cI cJ cD am a1 a2 a3 v1 G tp w oc n 1 x5 v2 hv2) oX12_reads rfl (zT_mem 1593 (by decide +kernel) rfl) (zT_mem 1595 (by decide +kernel) rfl) (zT_mem 33 (by decide +kernel) rfl) rfl rfl (Nat.le_of_ble_eq_true rfl) ⟨by decide, by decide⟩ (by decide +kernel) (fun hm hW hFr2 => ?_)
  replace hFr := hFr.tr hFr2; clear hFr2
  refine zV_eq (st2 := [.int v2.1, .int x4, .ref am]) rfl rfl rfl rfl ?_
  obtain ⟨v3, hv3, h⟩ := zbind h
  refine m_cC (idx := 135) (rest := []) hW (cmlays s0 D cB cI cJ cD am a1 a2 a3 v2.2 G tp w oc x4 v2.1 v3 hv3) oX12_lays rfl (zT_mem 1603 (by decide +kernel) rfl) (zT_mem 1605 (by decide +kernel) rfl) (zT_mem 35 (by decide +kernel) rfl) rfl rfl (Nat.le_of_ble_eq_true rfl) ⟨by decide, by decide⟩ (by decide +kernel) (fun hm hW hFr2 => ?_)
  replace hFr := hFr.tr hFr2; clear hFr2
  refine zV_eq (st2 := []) rfl rfl rfl rfl ?_
  obtain rfl := Option.some.inj h
  exact zV_vret rfl (by decide +kernel) (hQ _ rfl hm hW hFr)

