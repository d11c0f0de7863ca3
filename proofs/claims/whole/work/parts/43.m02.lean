def mnext_39 (n : Nat) (F : Nat → Int32) (tp : Nat → Int32) : Option (((Nat → Int32)) ⊕ (Int32 × (Nat → Int32))) := some (.inl (upd F 4 ((F 4) + 1)))
set_option maxHeartbeats 4000000 in
set_option maxRecDepth 100000 in
theorem cmnext_39 (s0 : State) (D : va_G) (cB cI cJ cD : ClassId) (am a1 a2 a3 : Nat) (F : Nat → Int32) (G : Nat → Int64) (tp w oc : Nat → Int32) (n : Nat) {hi hm : zHp} {nx : Nat} {Q : Option Value → zHp → zHp → Nat → Prop} {hm0 : zHp} {x : ((Nat → Int32)) ⊕ (Int32 × (Nat → Int32))} (hW : mW cB cI am a1 a2 a3 F G tp w oc hm) (hFr : mFr am a1 a2 a3 hm0 hm) (h : mnext_39 n F tp = some x) (hL0 : ∀ s : (Nat → Int32), x = (.inl s) → ∀ hm', mW cB cI am a1 a2 a3 s G tp w oc hm' → mFr am a1 a2 a3 hm0 hm' → zV s0 D (zty cB cI cJ cD) yX12_next cX12_next 1 (some .int) 0 0 0 0 0 [(0, .ref am)] [] hi hm' nx Q) (hQ : ∀ r : Int32 × (Nat → Int32), x = (.inr r) → ∀ hm', mW cB cI am a1 a2 a3 r.2 G tp w oc hm' → mFr am a1 a2 a3 hm0 hm' → Q (some (.int r.1)) hi hm' nx) : zV s0 D (zty cB cI cJ cD) yX12_next cX12_next 1 (some .int) 0 0 0 0 39 [(0, .ref am)] [] hi hm nx Q := by
  unfold mnext_39 at h
  refine zV_blk (pc' := 41) (lo' := [(0, .ref am)]) (st' := [.ref am, .ref am]) [.aload_n 0, .dup] (by decide +kernel) rfl ?_
  refine m_get (idx := 55) (k := 4) (v := .int (F 4)) hW m_in12 (by decide) (zT_mem 1444 (by decide +kernel) rfl) rfl (by decide +kernel) ?_
  refine zV_blk (pc' := 46) (lo' := [(0, .ref am)]) (st' := [.int ((F 4) + 1), .ref am]) [.iconst 1, .iadd] (by decide +kernel) rfl ?_
  refine m_put (idx := 55) (k := 4) (v := .int ((F 4) + 1)) (F' := (upd F 4 ((F 4) + 1))) (G' := G) hW m_in12 (by decide) (zT_mem 1444 (by decide +kernel) rfl) rfl rfl rfl rfl (by decide +kernel) (fun hm hW hFr2 => ?_)
  replace hFr := hFr.tr hFr2; clear hFr2
  refine zV_goto (tgt := 0) (off := -49) (by decide +kernel) (by decide) ?_
  obtain rfl := Option.some.inj h
  refine zV_pick (lo2 := [(0, .ref am)]) [0] rfl ?_
  exact hL0 _ rfl hm hW hFr
def mnext_0 (n : Nat) (tp : Nat → Int32) (s : (Nat → Int32)) : Option (((Nat → Int32)) ⊕ (Int32 × (Nat → Int32))) := (if ((s 3) : Int32) ≤ ((s 4) : Int32) then some (.inr ((s 4), s)) else zck (zin ((s 4)) 800) ((if ((tp ((s 4) : Int32).toNatClampNeg) : Int32) = (32 : Int32) then (mnext_39 n s tp) else zck (zin ((s 4)) 800) ((if ((tp ((s 4) : Int32).toNatClampNeg) : Int32) = (10 : Int32) then (mnext_39 n s tp) else some (.inr ((s 4), s)))))))
set_option maxHeartbeats 4000000 in
set_option maxRecDepth 100000 in
theorem cmnext_0 (s0 : State) (D : va_G) (cB cI cJ cD : ClassId) (am a1 a2 a3 : Nat) (G : Nat → Int64) (tp : Nat → Int32) (w : Nat → Int32) (oc : Nat → Int32) (n : Nat) (s : (Nat → Int32)) (x : ((Nat → Int32)) ⊕ (Int32 × (Nat → Int32))) {hi hm : zHp} {nx : Nat} {Q : Option Value → zHp → zHp → Nat → Prop} {hm0 : zHp} (hW : mW cB cI am a1 a2 a3 s G tp w oc hm) (hFr : mFr am a1 a2 a3 hm0 hm) (h : mnext_0 n tp s = some x) (hL0 : ∀ s : (Nat → Int32), x = (.inl s) → ∀ hm', mW cB cI am a1 a2 a3 s G tp w oc hm' → mFr am a1 a2 a3 hm0 hm' → zV s0 D (zty cB cI cJ cD) yX12_next cX12_next 1 (some .int) 0 0 0 0 0 [(0, .ref am)] [] hi hm' nx Q) (hQ : ∀ r : Int32 × (Nat → Int32), x = (.inr r) → ∀ hm', mW cB cI am a1 a2 a3 r.2 G tp w oc hm' → mFr am a1 a2 a3 hm0 hm' → Q (some (.int r.1)) hi hm' nx) : zV s0 D (zty cB cI cJ cD) yX12_next cX12_next 1 (some .int) 0 0 0 0 0 [(0, .ref am)] [] hi hm nx Q := by
  unfold mnext_0 at h
  refine zV_blk (pc' := 1) (lo' := [(0, .ref am)]) (st' := [.ref am]) [.aload_n 0] (by decide +kernel) rfl ?_
  refine m_get (idx := 55) (k := 4) (v := .int (s 4)) hW m_in12 (by decide) (zT_mem 1444 (by decide +kernel) rfl) rfl (by decide +kernel) ?_
  refine zV_blk (pc' := 5) (lo' := [(0, .ref am)]) (st' := [.ref am, .int (s 4)]) [.aload_n 0] (by decide +kernel) rfl ?_
  refine m_get (idx := 52) (k := 3) (v := .int (s 3)) hW m_in12 (by decide) (zT_mem 1443 (by decide +kernel) rfl) rfl (by decide +kernel) ?_
  refine zV_icmp_ge (tgt := 52) (off := 44) (by decide +kernel) (by decide) (fun q => ?_) (fun q => ?_)
  · replace h := zif_pos q h
    clear q
    refine zV_blk (pc' := 53) (lo' := [(0, .ref am)]) (st' := [.ref am]) [.aload_n 0] (by decide +kernel) rfl ?_
    refine m_get (idx := 55) (k := 4) (v := .int (s 4)) hW m_in12 (by decide) (zT_mem 1444 (by decide +kernel) rfl) rfl (by decide +kernel) ?_
    obtain rfl := Option.some.inj h
    exact zV_iret rfl (by decide +kernel) (hQ _ rfl hm hW hFr)
  · replace h := zif_neg q h
    clear q
    refine zV_blk (pc' := 12) (lo' := [(0, .ref am)]) (st' := [.ref am]) [.aload_n 0] (by decide +kernel) rfl ?_
    refine m_get (idx := 7) (k := 1) (v := .ref a1) hW m_in12 (by decide) (zT_mem 1441 (by decide +kernel) rfl) rfl (by decide +kernel) ?_
    refine zV_blk (pc' := 16) (lo' := [(0, .ref am)]) (st' := [.ref am, .ref a1]) [.aload_n 0] (by decide +kernel) rfl ?_
    refine m_get (idx := 55) (k := 4) (v := .int (s 4)) hW m_in12 (by decide) (zT_mem 1444 (by decide +kernel) rfl) rfl (by decide +kernel) ?_
    obtain ⟨hz, h⟩ := zck_some h
    refine m_tld hW hz (by decide +kernel) ?_
    refine zV_blk (pc' := 22) (lo' := [(0, .ref am)]) (st' := [.int 32, .int (tp ((s 4) : Int32).toNatClampNeg)]) [.bipush 32] (by decide +kernel) rfl ?_
    refine zV_icmp_eq (tgt := 39) (off := 17) (by decide +kernel) (by decide) (fun q => ?_) (fun q => ?_)
    · replace h := zif_pos q h
      clear q
      refine zV_pick (lo2 := [(0, .ref am)]) [0] rfl ?_
      exact cmnext_39 s0 D cB cI cJ cD am a1 a2 a3 s G tp w oc n  hW hFr h hL0 hQ
    · replace h := zif_neg q h
      clear q
      refine zV_blk (pc' := 26) (lo' := [(0, .ref am)]) (st' := [.ref am]) [.aload_n 0] (by decide +kernel) rfl ?_
      refine m_get (idx := 7) (k := 1) (v := .ref a1) hW m_in12 (by decide) (zT_mem 1441 (by decide +kernel) rfl) rfl (by decide +kernel) ?_
      refine zV_blk (pc' := 30) (lo' := [(0, .ref am)]) (st' := [.ref am, .ref a1]) [.aload_n 0] (by decide +kernel) rfl ?_
      refine m_get (idx := 55) (k := 4) (v := .int (s 4)) hW m_in12 (by decide) (zT_mem 1444 (by decide +kernel) rfl) rfl (by decide +kernel) ?_
      obtain ⟨hz, h⟩ := zck_some h
      refine m_tld hW hz (by decide +kernel) ?_
      refine zV_blk (pc' := 36) (lo' := [(0, .ref am)]) (st' := [.int 10, .int (tp ((s 4) : Int32).toNatClampNeg)]) [.bipush 10] (by decide +kernel) rfl ?_
      refine zV_icmp_ne (tgt := 52) (off := 16) (by decide +kernel) (by decide) (fun q => ?_) (fun q => ?_)
      · replace h := zif_neg q h
        clear q
        refine zV_blk (pc' := 53) (lo' := [(0, .ref am)]) (st' := [.ref am]) [.aload_n 0] (by decide +kernel) rfl ?_
        refine m_get (idx := 55) (k := 4) (v := .int (s 4)) hW m_in12 (by decide) (zT_mem 1444 (by decide +kernel) rfl) rfl (by decide +kernel) ?_
        obtain rfl := Option.some.inj h
        exact zV_iret rfl (by decide +kernel) (hQ _ rfl hm hW hFr)
      · replace h := zif_pos q h
        clear q
        refine zV_pick (lo2 := [(0, .ref am)]) [0] rfl ?_
        exact cmnext_39 s0 D cB cI cJ cD am a1 a2 a3 s G tp w oc n  hW hFr h hL0 hQ
theorem cmnext_0L (s0 : State) (D : va_G) (cB cI cJ cD : ClassId) (am a1 a2 a3 : Nat) (G : Nat → Int64) (tp : Nat → Int32) (w : Nat → Int32) (oc : Nat → Int32) (n : Nat) : ∀ (k : Nat) (s : (Nat → Int32)) {hi hm : zHp} {nx : Nat} {Q : Option Value → zHp → zHp → Nat → Prop} {hm0 : zHp} (_ : mW cB cI am a1 a2 a3 s G tp w oc hm) (_ : mFr am a1 a2 a3 hm0 hm) {x : Int32 × (Nat → Int32)} (_ : zloop (mnext_0 n tp) k s = some x) (hQ : ∀ r : Int32 × (Nat → Int32), x = r → ∀ hm', mW cB cI am a1 a2 a3 r.2 G tp w oc hm' → mFr am a1 a2 a3 hm0 hm' → Q (some (.int r.1)) hi hm' nx), zV s0 D (zty cB cI cJ cD) yX12_next cX12_next 1 (some .int) 0 0 0 0 0 [(0, .ref am)] [] hi hm nx Q
  | 0, s, _, _, _, _, _, hW, hFr, _, h, _ => by cases h
  | k + 1, s, hi, hm, nx, Q, hm0, hW, hFr, x, h, hQ => by
    obtain ⟨z, hz, h1, h2⟩ := zloop_succ h
    exact cmnext_0 s0 D cB cI cJ cD am a1 a2 a3 G tp w oc n  s z hW hFr hz (fun s' hs hm' hW' hFr' => cmnext_0L s0 D cB cI cJ cD am a1 a2 a3 G tp w oc n  k s' hW' hFr' (h1 s' hs) hQ) (fun r hr hm' hW' hFr' => hQ r (h2 _ hr).symm hm' hW' hFr')
def mnext (n : Nat) (F : Nat → Int32) (tp : Nat → Int32) : Option (Int32 × (Nat → Int32)) := (zloop (mnext_0 n tp) n F)
theorem oX12_next : zO yX12_next cX12_next 1 (some .int) 0 := ⟨zT_mem 1554 (by decide +kernel) rfl, zT_mem 94 (by decide +kernel) rfl, by decide +kernel, by decide +kernel, by decide +kernel⟩
set_option maxHeartbeats 4000000 in
set_option maxRecDepth 100000 in
theorem cmnext (s0 : State) (D : va_G) (cB cI cJ cD : ClassId) (am a1 a2 a3 : Nat) (F : Nat → Int32) (G : Nat → Int64) (tp w oc : Nat → Int32) (n : Nat) (x : Int32 × (Nat → Int32)) (h : mnext n F tp = some x) : mC s0 D cB cI cJ cD am a1 a2 a3 yX12_next cX12_next 1 (some .int) 0 0 [] F G tp w oc (some (.int x.1)) x.2 G tp w oc := by
  intro hi hm nx Q hW hQ0
  have hQ : ∀ r : Int32 × (Nat → Int32), x = r → ∀ hm', mW cB cI am a1 a2 a3 r.2 G tp w oc hm' → mFr am a1 a2 a3 hm hm' → Q (some (.int r.1)) hi hm' nx := fun r hr => by subst hr; exact hQ0
  have hFr : mFr am a1 a2 a3 hm hm := mFr.rf
  clear hQ0
  refine zM_of (by decide +kernel) (Nat.le_of_ble_eq_true rfl) ?_
  unfold mnext at h
  refine zV_eq (lo2 := [(0, .ref am)]) rfl rfl rfl rfl ?_
  refine zV_pick (lo2 := [(0, .ref am)]) [0] rfl ?_
  exact cmnext_0L s0 D cB cI cJ cD am a1 a2 a3 G tp w oc n  n F hW hFr h hQ

def munlike (n : Nat) (F : Nat → Int32) (tp : Nat → Int32) : Option ((Nat → Int32)) := (mnext n F tp).bind (fun v1 => (mfail v1.2 1 v1.1).bind (fun v2 => some v2))
theorem oX12_unlike : zO yX12_unlike cX12_unlike 1 none 0 := ⟨zT_mem 1592 (by decide +kernel) rfl, zT_mem 94 (by decide +kernel) rfl, by decide +kernel, by decide +kernel, by decide +kernel⟩
set_option maxHeartbeats 4000000 in
set_option maxRecDepth 100000 in
theorem cmunlike (s0 : State) (D : va_G) (cB cI cJ cD : ClassId) (am a1 a2 a3 : Nat) (F : Nat → Int32) (G : Nat → Int64) (tp w oc : Nat → Int32) (n : Nat) (x : (Nat → Int32)) (h : munlike n F tp = some x) : mC s0 D cB cI cJ cD am a1 a2 a3 yX12_unlike cX12_unlike 1 none 1 22 [] F G tp w oc none x G tp w oc := by
  intro hi hm nx Q hW hQ0
  have hQ : ∀ r : (Nat → Int32), x = r → ∀ hm', mW cB cI am a1 a2 a3 r G tp w oc hm' → mFr am a1 a2 a3 hm hm' → Q none hi hm' nx := fun r hr => by subst hr; exact hQ0
  have hFr : mFr am a1 a2 a3 hm hm := mFr.rf
  clear hQ0
  refine zM_of (by decide +kernel) (Nat.le_of_ble_eq_true rfl) ?_
  unfold munlike at h
  refine zV_eq (lo2 := [(0, .ref am)]) rfl rfl rfl rfl ?_
  refine zV_blk (pc' := 3) (lo' := [(0, .ref am)]) (st' := [.ref am, .int 1, .ref am]) [.aload_n 0, .iconst 1, .aload_n 0] (by decide +kernel) rfl ?_
  obtain ⟨v1, hv1, h⟩ := zbind h
  refine m_cC (idx := 75) (rest := [.int 1, .ref am]) hW (cmnext s0 D cB cI cJ cD am a1 a2 a3 F G tp w oc n  v1 hv1) oX12_next rfl (zT_mem 1551 (by decide +kernel) rfl) (zT_mem 1553 (by decide +kernel) rfl) (zT_mem 24 (by decide +kernel) rfl) rfl rfl (Nat.le_of_ble_eq_true rfl) ⟨by decide, by decide⟩ (by decide +kernel) (fun hm hW hFr2 => ?_)
  replace hFr := hFr.tr hFr2; clear hFr2
  refine zV_eq (st2 := [.int v1.1, .int 1, .ref am]) rfl rfl rfl rfl ?_
  obtain ⟨v2, hv2, h⟩ := zbind h
  refine m_cC (idx := 79) (rest := []) hW (cmfail s0 D cB cI cJ cD am a1 a2 a3 v1.2 G tp w oc 1 v1.1 v2 hv2) oX12_fail rfl (zT_mem 1581 (by decide +kernel) rfl) (zT_mem 1583 (by decide +kernel) rfl) (zT_mem 30 (by decide +kernel) rfl) rfl rfl (Nat.le_of_ble_eq_true rfl) ⟨by decide, by decide⟩ (by decide +kernel) (fun hm hW hFr2 => ?_)
  replace hFr := hFr.tr hFr2; clear hFr2
  refine zV_eq (st2 := []) rfl rfl rfl rfl ?_
  obtain rfl := Option.some.inj h
  exact zV_vret rfl (by decide +kernel) (hQ _ rfl hm hW hFr)

def misWord_89 (n : Nat) (F : Nat → Int32) (tp : Nat → Int32) (x1 : Int64) (x3 : Int32) (t0 : Int64) : Option ((Int64 × (Nat → Int32)) ⊕ (Bool × (Nat → Int32))) := some (.inl (t0, (upd F 10 ((F 10) + 1))))
set_option maxHeartbeats 4000000 in
set_option maxRecDepth 100000 in
theorem cmisWord_89 (s0 : State) (D : va_G) (cB cI cJ cD : ClassId) (am a1 a2 a3 : Nat) (F : Nat → Int32) (G : Nat → Int64) (tp w oc : Nat → Int32) (n : Nat) (x1 : Int64) (x3 : Int32) (t0 : Int64) {hi hm : zHp} {nx : Nat} {Q : Option Value → zHp → zHp → Nat → Prop} {hm0 : zHp} {x : (Int64 × (Nat → Int32)) ⊕ (Bool × (Nat → Int32))} (hW : mW cB cI am a1 a2 a3 F G tp w oc hm) (hFr : mFr am a1 a2 a3 hm0 hm) (h : misWord_89 n F tp x1 x3 t0 = some x) (hL38 : ∀ s : Int64 × (Nat → Int32), x = (.inl s) → ∀ hm', mW cB cI am a1 a2 a3 s.2 G tp w oc hm' → mFr am a1 a2 a3 hm0 hm' → zV s0 D (zty cB cI cJ cD) yX12_isWord cX12_isWord 6 (some .boolean) 2 46 0 0 38 [(0, .ref am), (1, .long x1), (3, .int x3), (4, .long s.1)] [] hi hm' nx Q) (hQ : ∀ r : Bool × (Nat → Int32), x = (.inr r) → ∀ hm', mW cB cI am a1 a2 a3 r.2 G tp w oc hm' → mFr am a1 a2 a3 hm0 hm' → Q (some (.int (zb r.1))) hi hm' nx) : zV s0 D (zty cB cI cJ cD) yX12_isWord cX12_isWord 6 (some .boolean) 2 46 0 0 89 [(0, .ref am), (1, .long x1), (3, .int x3)] [.long t0] hi hm nx Q := by
  unfold misWord_89 at h
  refine zV_blk (pc' := 93) (lo' := [(4, .long t0), (0, .ref am), (1, .long x1), (3, .int x3)]) (st' := [.ref am, .ref am]) [.lstore 4, .aload_n 0, .dup] (by decide +kernel) rfl ?_
  refine m_get (idx := 83) (k := 10) (v := .int (F 10)) hW m_in12 (by decide) (zT_mem 1450 (by decide +kernel) rfl) rfl (by decide +kernel) ?_
  refine zV_blk (pc' := 98) (lo' := [(4, .long t0), (0, .ref am), (1, .long x1), (3, .int x3)]) (st' := [.int ((F 10) + 1), .ref am]) [.iconst 1, .iadd] (by decide +kernel) rfl ?_
  refine m_put (idx := 83) (k := 10) (v := .int ((F 10) + 1)) (F' := (upd F 10 ((F 10) + 1))) (G' := G) hW m_in12 (by decide) (zT_mem 1450 (by decide +kernel) rfl) rfl rfl rfl rfl (by decide +kernel) (fun hm hW hFr2 => ?_)
  replace hFr := hFr.tr hFr2; clear hFr2
  refine zV_goto (tgt := 38) (off := -63) (by decide +kernel) (by decide) ?_
  obtain rfl := Option.some.inj h
  refine zV_pick (lo2 := [(0, .ref am), (1, .long x1), (3, .int x3), (4, .long t0)]) [1, 2, 3, 0] rfl ?_
  exact hL38 _ rfl hm hW hFr
def misWord_38 (n : Nat) (tp : Nat → Int32) (x1 : Int64) (x3 : Int32) (s : Int64 × (Nat → Int32)) : Option ((Int64 × (Nat → Int32)) ⊕ (Bool × (Nat → Int32))) := (misLetter s.2 tp (x3 + (s.2 10))).bind (fun v1 => (if v1 = true then (if (6 : Int32) ≤ ((s.2 10) : Int32) then (misWord_89 n s.2 tp x1 x3 (-1)) else zck (zin ((x3 + (s.2 10))) 800) ((misWord_89 n s.2 tp x1 x3 (((32 * s.1) + ((tp ((x3 + (s.2 10)) : Int32).toNatClampNeg) : Int32).toInt64) - 96)))) else (if (7 : Int32) ≤ ((s.2 10) : Int32) then some (.inr (false, s.2)) else (if (s.1 : Int64) = (x1 : Int64) then some (.inr (true, s.2)) else some (.inr (false, s.2))))))
set_option maxHeartbeats 4000000 in
set_option maxRecDepth 100000 in
theorem cmisWord_38 (s0 : State) (D : va_G) (cB cI cJ cD : ClassId) (am a1 a2 a3 : Nat) (G : Nat → Int64) (tp : Nat → Int32) (w : Nat → Int32) (oc : Nat → Int32) (n : Nat) (x1 : Int64) (x3 : Int32) (s : Int64 × (Nat → Int32)) (x : (Int64 × (Nat → Int32)) ⊕ (Bool × (Nat → Int32))) {hi hm : zHp} {nx : Nat} {Q : Option Value → zHp → zHp → Nat → Prop} {hm0 : zHp} (hW : mW cB cI am a1 a2 a3 s.2 G tp w oc hm) (hFr : mFr am a1 a2 a3 hm0 hm) (h : misWord_38 n tp x1 x3 s = some x) (hL38 : ∀ s : Int64 × (Nat → Int32), x = (.inl s) → ∀ hm', mW cB cI am a1 a2 a3 s.2 G tp w oc hm' → mFr am a1 a2 a3 hm0 hm' → zV s0 D (zty cB cI cJ cD) yX12_isWord cX12_isWord 6 (some .boolean) 2 46 0 0 38 [(0, .ref am), (1, .long x1), (3, .int x3), (4, .long s.1)] [] hi hm' nx Q) (hQ : ∀ r : Bool × (Nat → Int32), x = (.inr r) → ∀ hm', mW cB cI am a1 a2 a3 r.2 G tp w oc hm' → mFr am a1 a2 a3 hm0 hm' → Q (some (.int (zb r.1))) hi hm' nx) : zV s0 D (zty cB cI cJ cD) yX12_isWord cX12_isWord 6 (some .boolean) 2 46 0 0 38 [(0, .ref am), (1, .long x1), (3, .int x3), (4, .long s.1)] [] hi hm nx Q := by
  unfold misWord_38 at h
  refine zV_blk (pc' := 41) (lo' := [(0, .ref am), (1, .long x1), (3, .int x3), (4, .long s.1)]) (st' := [.ref am, .int x3, .ref am]) [.aload_n 0, .iload_n 3, .aload_n 0] (by decide +kernel) rfl ?_
  refine m_get (idx := 83) (k := 10) (v := .int (s.2 10)) hW m_in12 (by decide) (zT_mem 1450 (by decide +kernel) rfl) rfl (by decide +kernel) ?_
  refine zV_blk (pc' := 45) (lo' := [(0, .ref am), (1, .long x1), (3, .int x3), (4, .long s.1)]) (st' := [.int (x3 + (s.2 10)), .ref am]) [.iadd] (by decide +kernel) rfl ?_
  obtain ⟨v1, hv1, h⟩ := zbind h
  refine m_cR (idx := 90) (rest := []) hW (cmisLetter s0 D cB cI cJ cD am a1 a2 a3 s.2 G tp w oc (x3 + (s.2 10)) v1 hv1) oX12_isLetter rfl (zT_mem 1564 (by decide +kernel) rfl) (zT_mem 1566 (by decide +kernel) rfl) (zT_mem 27 (by decide +kernel) rfl) rfl rfl (Nat.le_of_ble_eq_true rfl) ⟨by decide, by decide⟩ (by decide +kernel) ?_
  refine zV_eq (st2 := [.int (zb v1)]) rfl rfl rfl rfl ?_
  refine zV_bif_eq (tgt := 104) (off := 56) (by decide +kernel) (by decide) (fun q => ?_) (fun q => ?_)
  · replace h := zif_neg q h
    clear q
    refine zV_blk (pc' := 105) (lo' := [(0, .ref am), (1, .long x1), (3, .int x3), (4, .long s.1)]) (st' := [.ref am]) [.aload_n 0] (by decide +kernel) rfl ?_
    refine m_get (idx := 83) (k := 10) (v := .int (s.2 10)) hW m_in12 (by decide) (zT_mem 1450 (by decide +kernel) rfl) rfl (by decide +kernel) ?_
    refine zV_blk (pc' := 110) (lo' := [(0, .ref am), (1, .long x1), (3, .int x3), (4, .long s.1)]) (st' := [.int 7, .int (s.2 10)]) [.bipush 7] (by decide +kernel) rfl ?_
    refine zV_icmp_ge (tgt := 124) (off := 14) (by decide +kernel) (by decide) (fun q => ?_) (fun q => ?_)
    · replace h := zif_pos q h
      clear q
      refine zV_blk (pc' := 125) (lo' := [(0, .ref am), (1, .long x1), (3, .int x3), (4, .long s.1)]) (st' := [.int 0]) [.iconst 0] (by decide +kernel) rfl ?_
      obtain rfl := Option.some.inj h
      refine zV_eq (st2 := [.int (zb false)]) rfl rfl rfl rfl ?_
      exact zV_bret rfl (by decide +kernel) (hQ _ rfl hm hW hFr)
    · replace h := zif_neg q h
      clear q
      refine zV_blk (pc' := 117) (lo' := [(0, .ref am), (1, .long x1), (3, .int x3), (4, .long s.1)]) (st' := [.int (lg_cmp s.1 x1)]) [.lload 4, .lload_n 1, .lcmp] (by decide +kernel) rfl ?_
      refine zV_lcmp_ne (tgt := 124) (off := 7) (by decide +kernel) (by decide) (fun q => ?_) (fun q => ?_)
      · replace h := zif_neg q h
        clear q
        refine zV_blk (pc' := 125) (lo' := [(0, .ref am), (1, .long x1), (3, .int x3), (4, .long s.1)]) (st' := [.int 0]) [.iconst 0] (by decide +kernel) rfl ?_
        obtain rfl := Option.some.inj h
        refine zV_eq (st2 := [.int (zb false)]) rfl rfl rfl rfl ?_
        exact zV_bret rfl (by decide +kernel) (hQ _ rfl hm hW hFr)
      · replace h := zif_pos q h
        clear q
        refine zV_blk (pc' := 121) (lo' := [(0, .ref am), (1, .long x1), (3, .int x3), (4, .long s.1)]) (st' := [.int 1]) [.iconst 1] (by decide +kernel) rfl ?_
        refine zV_goto (tgt := 125) (off := 4) (by decide +kernel) (by decide) ?_
        obtain rfl := Option.some.inj h
        refine zV_eq (st2 := [.int (zb true)]) rfl rfl rfl rfl ?_
        exact zV_bret rfl (by decide +kernel) (hQ _ rfl hm hW hFr)
  · replace h := zif_pos q h
    clear q
    refine zV_blk (pc' := 52) (lo' := [(0, .ref am), (1, .long x1), (3, .int x3), (4, .long s.1)]) (st' := [.ref am]) [.aload_n 0] (by decide +kernel) rfl ?_
    refine m_get (idx := 83) (k := 10) (v := .int (s.2 10)) hW m_in12 (by decide) (zT_mem 1450 (by decide +kernel) rfl) rfl (by decide +kernel) ?_
    refine zV_blk (pc' := 57) (lo' := [(0, .ref am), (1, .long x1), (3, .int x3), (4, .long s.1)]) (st' := [.int 6, .int (s.2 10)]) [.bipush 6] (by decide +kernel) rfl ?_
    refine zV_icmp_ge (tgt := 86) (off := 29) (by decide +kernel) (by decide) (fun q => ?_) (fun q => ?_)
    · replace h := zif_pos q h
      clear q
      refine zV_ldc2 (idx := 98) (v := (-1)) (zT_mem 1572 (by decide +kernel) rfl) (by decide +kernel) ?_
      refine zV_pick (lo2 := [(0, .ref am), (1, .long x1), (3, .int x3)]) [0, 1, 2] rfl ?_
      exact cmisWord_89 s0 D cB cI cJ cD am a1 a2 a3 s.2 G tp w oc n x1 x3 (-1) hW hFr h hL38 hQ
    · replace h := zif_neg q h
      clear q
      refine zV_ldc2 (idx := 94) (v := 32) (zT_mem 1570 (by decide +kernel) rfl) (by decide +kernel) ?_
      refine zV_blk (pc' := 67) (lo' := [(0, .ref am), (1, .long x1), (3, .int x3), (4, .long s.1)]) (st' := [.ref am, .long (32 * s.1)]) [.lload 4, .lmul, .aload_n 0] (by decide +kernel) rfl ?_
      refine m_get (idx := 7) (k := 1) (v := .ref a1) hW m_in12 (by decide) (zT_mem 1441 (by decide +kernel) rfl) rfl (by decide +kernel) ?_
      refine zV_blk (pc' := 72) (lo' := [(0, .ref am), (1, .long x1), (3, .int x3), (4, .long s.1)]) (st' := [.ref am, .int x3, .ref a1, .long (32 * s.1)]) [.iload_n 3, .aload_n 0] (by decide +kernel) rfl ?_
      refine m_get (idx := 83) (k := 10) (v := .int (s.2 10)) hW m_in12 (by decide) (zT_mem 1450 (by decide +kernel) rfl) rfl (by decide +kernel) ?_
      refine zV_blk (pc' := 76) (lo' := [(0, .ref am), (1, .long x1), (3, .int x3), (4, .long s.1)]) (st' := [.int (x3 + (s.2 10)), .ref a1, .long (32 * s.1)]) [.iadd] (by decide +kernel) rfl ?_
      obtain ⟨hz, h⟩ := zck_some h
      refine m_tld hW hz (by decide +kernel) ?_
      refine zV_blk (pc' := 79) (lo' := [(0, .ref am), (1, .long x1), (3, .int x3), (4, .long s.1)]) (st' := [.long ((32 * s.1) + ((tp ((x3 + (s.2 10)) : Int32).toNatClampNeg) : Int32).toInt64)]) [.i2l, .ladd] (by decide +kernel) rfl ?_
      refine zV_ldc2 (idx := 96) (v := 96) (zT_mem 1571 (by decide +kernel) rfl) (by decide +kernel) ?_
      refine zV_blk (pc' := 83) (lo' := [(0, .ref am), (1, .long x1), (3, .int x3), (4, .long s.1)]) (st' := [.long (((32 * s.1) + ((tp ((x3 + (s.2 10)) : Int32).toNatClampNeg) : Int32).toInt64) - 96)]) [.lsub] (by decide +kernel) rfl ?_
      refine zV_goto (tgt := 89) (off := 6) (by decide +kernel) (by decide) ?_
      refine zV_pick (lo2 := [(0, .ref am), (1, .long x1), (3, .int x3)]) [0, 1, 2] rfl ?_
      exact cmisWord_89 s0 D cB cI cJ cD am a1 a2 a3 s.2 G tp w oc n x1 x3 (((32 * s.1) + ((tp ((x3 + (s.2 10)) : Int32).toNatClampNeg) : Int32).toInt64) - 96) hW hFr h hL38 hQ
theorem cmisWord_38L (s0 : State) (D : va_G) (cB cI cJ cD : ClassId) (am a1 a2 a3 : Nat) (G : Nat → Int64) (tp : Nat → Int32) (w : Nat → Int32) (oc : Nat → Int32) (n : Nat) (x1 : Int64) (x3 : Int32) : ∀ (k : Nat) (s : Int64 × (Nat → Int32)) {hi hm : zHp} {nx : Nat} {Q : Option Value → zHp → zHp → Nat → Prop} {hm0 : zHp} (_ : mW cB cI am a1 a2 a3 s.2 G tp w oc hm) (_ : mFr am a1 a2 a3 hm0 hm) {x : Bool × (Nat → Int32)} (_ : zloop (misWord_38 n tp x1 x3) k s = some x) (hQ : ∀ r : Bool × (Nat → Int32), x = r → ∀ hm', mW cB cI am a1 a2 a3 r.2 G tp w oc hm' → mFr am a1 a2 a3 hm0 hm' → Q (some (.int (zb r.1))) hi hm' nx), zV s0 D (zty cB cI cJ cD) yX12_isWord cX12_isWord 6 (some .boolean) 2 46 0 0 38 [(0, .ref am), (1, .long x1), (3, .int x3), (4, .long s.1)] [] hi hm nx Q
  | 0, s, _, _, _, _, _, hW, hFr, _, h, _ => by cases h
  | k + 1, s, hi, hm, nx, Q, hm0, hW, hFr, x, h, hQ => by
    obtain ⟨z, hz, h1, h2⟩ := zloop_succ h
    exact cmisWord_38 s0 D cB cI cJ cD am a1 a2 a3 G tp w oc n x1 x3 s z hW hFr hz (fun s' hs hm' hW' hFr' => cmisWord_38L s0 D cB cI cJ cD am a1 a2 a3 G tp w oc n x1 x3 k s' hW' hFr' (h1 s' hs) hQ) (fun r hr hm' hW' hFr' => hQ r (h2 _ hr).symm hm' hW' hFr')
def misWord (n : Nat) (F : Nat → Int32) (tp : Nat → Int32) (x1 : Int64) : Option (Bool × (Nat → Int32)) := (mnext n F tp).bind (fun v1 => (misFine (upd v1.2 10 0)).bind (fun v2 => (if v2 = true then (misLetter (upd v1.2 10 0) tp v1.1).bind (fun v3 => (if v3 = true then (if (v1.1 : Int32) = (((upd v1.2 10 0) 5) : Int32) then some (false, (upd v1.2 10 0)) else (zloop (misWord_38 n tp x1 v1.1) n (0, (upd v1.2 10 0)))) else some (false, (upd v1.2 10 0)))) else some (false, (upd v1.2 10 0)))))
theorem oX12_isWord : zO yX12_isWord cX12_isWord 6 (some .boolean) 1 := ⟨zT_mem 1563 (by decide +kernel) rfl, zT_mem 94 (by decide +kernel) rfl, by decide +kernel, by decide +kernel, by decide +kernel⟩
set_option maxHeartbeats 4000000 in
set_option maxRecDepth 100000 in
theorem cmisWord (s0 : State) (D : va_G) (cB cI cJ cD : ClassId) (am a1 a2 a3 : Nat) (F : Nat → Int32) (G : Nat → Int64) (tp w oc : Nat → Int32) (n : Nat) (x1 : Int64) (x : Bool × (Nat → Int32)) (h : misWord n F tp x1 = some x) : mC s0 D cB cI cJ cD am a1 a2 a3 yX12_isWord cX12_isWord 6 (some .boolean) 2 46 [.long x1] F G tp w oc (some (.int (zb x.1))) x.2 G tp w oc := by
  intro hi hm nx Q hW hQ0
  have hQ : ∀ r : Bool × (Nat → Int32), x = r → ∀ hm', mW cB cI am a1 a2 a3 r.2 G tp w oc hm' → mFr am a1 a2 a3 hm hm' → Q (some (.int (zb r.1))) hi hm' nx := fun r hr => by subst hr; exact hQ0
  have hFr : mFr am a1 a2 a3 hm hm := mFr.rf
  clear hQ0
  refine zM_of (by decide +kernel) (Nat.le_of_ble_eq_true rfl) ?_
  unfold misWord at h
  refine zV_eq (lo2 := [(0, .ref am), (1, .long x1)]) rfl rfl rfl rfl ?_
  refine zV_blk (pc' := 1) (lo' := [(0, .ref am), (1, .long x1)]) (st' := [.ref am]) [.aload_n 0] (by decide +kernel) rfl ?_
  obtain ⟨v1, hv1, h⟩ := zbind h
  refine m_cC (idx := 75) (rest := []) hW (cmnext s0 D cB cI cJ cD am a1 a2 a3 F G tp w oc n  v1 hv1) oX12_next rfl (zT_mem 1551 (by decide +kernel) rfl) (zT_mem 1553 (by decide +kernel) rfl) (zT_mem 24 (by decide +kernel) rfl) rfl rfl (Nat.le_of_ble_eq_true rfl) ⟨by decide, by decide⟩ (by decide +kernel) (fun hm hW hFr2 => ?_)
  replace hFr := hFr.tr hFr2; clear hFr2
  refine zV_eq (st2 := [.int v1.1]) rfl rfl rfl rfl ?_
  refine zV_blk (pc' := 7) (lo' := [(3, .int v1.1), (0, .ref am), (1, .long x1)]) (st' := [.int 0, .ref am]) [.istore_n 3, .aload_n 0, .iconst 0] (by decide +kernel) rfl ?_
  refine m_put (idx := 83) (k := 10) (v := .int 0) (F' := (upd v1.2 10 0)) (G' := G) hW m_in12 (by decide) (zT_mem 1450 (by decide +kernel) rfl) rfl rfl rfl rfl (by decide +kernel) (fun hm hW hFr2 => ?_)
  replace hFr := hFr.tr hFr2; clear hFr2
  refine zV_blk (pc' := 11) (lo' := [(3, .int v1.1), (0, .ref am), (1, .long x1)]) (st' := [.ref am]) [.aload_n 0] (by decide +kernel) rfl ?_
  obtain ⟨v2, hv2, h⟩ := zbind h
  refine m_cR (idx := 86) (rest := []) hW (cmisFine s0 D cB cI cJ cD am a1 a2 a3 (upd v1.2 10 0) G tp w oc  v2 hv2) oX12_isFine rfl (zT_mem 1547 (by decide +kernel) rfl) (zT_mem 1549 (by decide +kernel) rfl) (zT_mem 23 (by decide +kernel) rfl) rfl rfl (Nat.le_of_ble_eq_true rfl) ⟨by decide, by decide⟩ (by decide +kernel) ?_
  refine zV_eq (st2 := [.int (zb v2)]) rfl rfl rfl rfl ?_
  refine zV_bif_eq (tgt := 33) (off := 19) (by decide +kernel) (by decide) (fun q => ?_) (fun q => ?_)
  · replace h := zif_neg q h
    clear q
    refine zV_blk (pc' := 34) (lo' := [(3, .int v1.1), (0, .ref am), (1, .long x1)]) (st' := [.int 0]) [.iconst 0] (by decide +kernel) rfl ?_
    obtain rfl := Option.some.inj h
    refine zV_eq (st2 := [.int (zb false)]) rfl rfl rfl rfl ?_
    exact zV_bret rfl (by decide +kernel) (hQ _ rfl hm hW hFr)
  · replace h := zif_pos q h
    clear q
    refine zV_blk (pc' := 19) (lo' := [(3, .int v1.1), (0, .ref am), (1, .long x1)]) (st' := [.int v1.1, .ref am]) [.aload_n 0, .iload_n 3] (by decide +kernel) rfl ?_
    obtain ⟨v3, hv3, h⟩ := zbind h
    refine m_cR (idx := 90) (rest := []) hW (cmisLetter s0 D cB cI cJ cD am a1 a2 a3 (upd v1.2 10 0) G tp w oc v1.1 v3 hv3) oX12_isLetter rfl (zT_mem 1564 (by decide +kernel) rfl) (zT_mem 1566 (by decide +kernel) rfl) (zT_mem 27 (by decide +kernel) rfl) rfl rfl (Nat.le_of_ble_eq_true rfl) ⟨by decide, by decide⟩ (by decide +kernel) ?_
    refine zV_eq (st2 := [.int (zb v3)]) rfl rfl rfl rfl ?_
    refine zV_bif_eq (tgt := 33) (off := 11) (by decide +kernel) (by decide) (fun q => ?_) (fun q => ?_)
    · replace h := zif_neg q h
      clear q
      refine zV_blk (pc' := 34) (lo' := [(3, .int v1.1), (0, .ref am), (1, .long x1)]) (st' := [.int 0]) [.iconst 0] (by decide +kernel) rfl ?_
      obtain rfl := Option.some.inj h
      refine zV_eq (st2 := [.int (zb false)]) rfl rfl rfl rfl ?_
      exact zV_bret rfl (by decide +kernel) (hQ _ rfl hm hW hFr)
    · replace h := zif_pos q h
      clear q
      refine zV_blk (pc' := 27) (lo' := [(3, .int v1.1), (0, .ref am), (1, .long x1)]) (st' := [.ref am, .int v1.1]) [.iload_n 3, .aload_n 0] (by decide +kernel) rfl ?_
      refine m_get (idx := 58) (k := 5) (v := .int ((upd v1.2 10 0) 5)) hW m_in12 (by decide) (zT_mem 1445 (by decide +kernel) rfl) rfl (by decide +kernel) ?_
      refine zV_icmp_ne (tgt := 35) (off := 5) (by decide +kernel) (by decide) (fun q => ?_) (fun q => ?_)
      · replace h := zif_neg q h
        clear q
        refine zV_blk (pc' := 38) (lo' := [(4, .long 0), (3, .int v1.1), (0, .ref am), (1, .long x1)]) (st' := []) [.lconst 0, .lstore 4] (by decide +kernel) rfl ?_
        refine zV_pick (lo2 := [(0, .ref am), (1, .long x1), (3, .int v1.1), (4, .long 0)]) [2, 3, 1, 0] rfl ?_
        exact cmisWord_38L s0 D cB cI cJ cD am a1 a2 a3 G tp w oc n x1 v1.1 n (0, (upd v1.2 10 0)) hW hFr h hQ
      · replace h := zif_pos q h
        clear q
        refine zV_blk (pc' := 34) (lo' := [(3, .int v1.1), (0, .ref am), (1, .long x1)]) (st' := [.int 0]) [.iconst 0] (by decide +kernel) rfl ?_
        obtain rfl := Option.some.inj h
        refine zV_eq (st2 := [.int (zb false)]) rfl rfl rfl rfl ?_
        exact zV_bret rfl (by decide +kernel) (hQ _ rfl hm hW hFr)

def mtakes (n : Nat) (F : Nat → Int32) (tp : Nat → Int32) (x1 : Int64) : Option (Bool × (Nat → Int32)) := (misWord n F tp x1).bind (fun v1 => (if v1.1 = true then some (true, (upd (upd v1.2 4 ((v1.2 4) + (v1.2 10))) 5 ((upd v1.2 4 ((v1.2 4) + (v1.2 10))) 4))) else some (false, v1.2)))
theorem oX12_takes : zO yX12_takes cX12_takes 3 (some .boolean) 1 := ⟨zT_mem 1588 (by decide +kernel) rfl, zT_mem 94 (by decide +kernel) rfl, by decide +kernel, by decide +kernel, by decide +kernel⟩
set_option maxHeartbeats 4000000 in
set_option maxRecDepth 100000 in
theorem cmtakes (s0 : State) (D : va_G) (cB cI cJ cD : ClassId) (am a1 a2 a3 : Nat) (F : Nat → Int32) (G : Nat → Int64) (tp w oc : Nat → Int32) (n : Nat) (x1 : Int64) (x : Bool × (Nat → Int32)) (h : mtakes n F tp x1 = some x) : mC s0 D cB cI cJ cD am a1 a2 a3 yX12_takes cX12_takes 3 (some .boolean) 3 71 [.long x1] F G tp w oc (some (.int (zb x.1))) x.2 G tp w oc := by
  intro hi hm nx Q hW hQ0
  have hQ : ∀ r : Bool × (Nat → Int32), x = r → ∀ hm', mW cB cI am a1 a2 a3 r.2 G tp w oc hm' → mFr am a1 a2 a3 hm hm' → Q (some (.int (zb r.1))) hi hm' nx := fun r hr => by subst hr; exact hQ0
  have hFr : mFr am a1 a2 a3 hm hm := mFr.rf
  clear hQ0
  refine zM_of (by decide +kernel) (Nat.le_of_ble_eq_true rfl) ?_
  unfold mtakes at h
  refine zV_eq (lo2 := [(0, .ref am), (1, .long x1)]) rfl rfl rfl rfl ?_
  refine zV_blk (pc' := 2) (lo' := [(0, .ref am), (1, .long x1)]) (st' := [.long x1, .ref am]) [.aload_n 0, .lload_n 1] (by decide +kernel) rfl ?_
  obtain ⟨v1, hv1, h⟩ := zbind h
  refine m_cC (idx := 100) (rest := []) hW (cmisWord s0 D cB cI cJ cD am a1 a2 a3 F G tp w oc n x1 v1 hv1) oX12_isWord rfl (zT_mem 1560 (by decide +kernel) rfl) (zT_mem 1562 (by decide +kernel) rfl) (zT_mem 26 (by decide +kernel) rfl) rfl rfl (Nat.le_of_ble_eq_true rfl) ⟨by decide, by decide⟩ (by decide +kernel) (fun hm hW hFr2 => ?_)
  replace hFr := hFr.tr hFr2; clear hFr2
  refine zV_eq (st2 := [.int (zb v1.1)]) rfl rfl rfl rfl ?_
  refine zV_bif_ne (tgt := 10) (off := 5) (by decide +kernel) (by decide) (fun q => ?_) (fun q => ?_)
  · replace h := zif_pos q h
    clear q
    refine zV_blk (pc' := 12) (lo' := [(0, .ref am), (1, .long x1)]) (st' := [.ref am, .ref am]) [.aload_n 0, .dup] (by decide +kernel) rfl ?_
    refine m_get (idx := 55) (k := 4) (v := .int (v1.2 4)) hW m_in12 (by decide) (zT_mem 1444 (by decide +kernel) rfl) rfl (by decide +kernel) ?_
    refine zV_blk (pc' := 16) (lo' := [(0, .ref am), (1, .long x1)]) (st' := [.ref am, .int (v1.2 4), .ref am]) [.aload_n 0] (by decide +kernel) rfl ?_
    refine m_get (idx := 83) (k := 10) (v := .int (v1.2 10)) hW m_in12 (by decide) (zT_mem 1450 (by decide +kernel) rfl) rfl (by decide +kernel) ?_
    refine zV_blk (pc' := 20) (lo' := [(0, .ref am), (1, .long x1)]) (st' := [.int ((v1.2 4) + (v1.2 10)), .ref am]) [.iadd] (by decide +kernel) rfl ?_
    refine m_put (idx := 55) (k := 4) (v := .int ((v1.2 4) + (v1.2 10))) (F' := (upd v1.2 4 ((v1.2 4) + (v1.2 10)))) (G' := G) hW m_in12 (by decide) (zT_mem 1444 (by decide +kernel) rfl) rfl rfl rfl rfl (by decide +kernel) (fun hm hW hFr2 => ?_)
    replace hFr := hFr.tr hFr2; clear hFr2
    refine zV_blk (pc' := 25) (lo' := [(0, .ref am), (1, .long x1)]) (st' := [.ref am, .ref am]) [.aload_n 0, .aload_n 0] (by decide +kernel) rfl ?_
    refine m_get (idx := 55) (k := 4) (v := .int ((upd v1.2 4 ((v1.2 4) + (v1.2 10))) 4)) hW m_in12 (by decide) (zT_mem 1444 (by decide +kernel) rfl) rfl (by decide +kernel) ?_
    refine m_put (idx := 58) (k := 5) (v := .int ((upd v1.2 4 ((v1.2 4) + (v1.2 10))) 4)) (F' := (upd (upd v1.2 4 ((v1.2 4) + (v1.2 10))) 5 ((upd v1.2 4 ((v1.2 4) + (v1.2 10))) 4))) (G' := G) hW m_in12 (by decide) (zT_mem 1445 (by decide +kernel) rfl) rfl rfl rfl rfl (by decide +kernel) (fun hm hW hFr2 => ?_)
    replace hFr := hFr.tr hFr2; clear hFr2
    refine zV_blk (pc' := 32) (lo' := [(0, .ref am), (1, .long x1)]) (st' := [.int 1]) [.iconst 1] (by decide +kernel) rfl ?_
    obtain rfl := Option.some.inj h
    refine zV_eq (st2 := [.int (zb true)]) rfl rfl rfl rfl ?_
    exact zV_bret rfl (by decide +kernel) (hQ _ rfl hm hW hFr)
  · replace h := zif_neg q h
    clear q
    refine zV_blk (pc' := 9) (lo' := [(0, .ref am), (1, .long x1)]) (st' := [.int 0]) [.iconst 0] (by decide +kernel) rfl ?_
    obtain rfl := Option.some.inj h
    refine zV_eq (st2 := [.int (zb false)]) rfl rfl rfl rfl ?_
    exact zV_bret rfl (by decide +kernel) (hQ _ rfl hm hW hFr)

def mneeds (n : Nat) (F : Nat → Int32) (tp : Nat → Int32) (x1 : Int64) : Option ((Nat → Int32)) := (misFine F).bind (fun v1 => (if v1 = true then (mtakes n F tp x1).bind (fun v2 => (if v2.1 = true then some (v2.2) else (munlike n v2.2 tp).bind (fun v3 => some v3))) else some F))
theorem oX12_needs : zO yX12_needs cX12_needs 3 none 1 := ⟨zT_mem 1621 (by decide +kernel) rfl, zT_mem 94 (by decide +kernel) rfl, by decide +kernel, by decide +kernel, by decide +kernel⟩
set_option maxHeartbeats 4000000 in
set_option maxRecDepth 100000 in
theorem cmneeds (s0 : State) (D : va_G) (cB cI cJ cD : ClassId) (am a1 a2 a3 : Nat) (F : Nat → Int32) (G : Nat → Int64) (tp w oc : Nat → Int32) (n : Nat) (x1 : Int64) (x : (Nat → Int32)) (h : mneeds n F tp x1 = some x) : mC s0 D cB cI cJ cD am a1 a2 a3 yX12_needs cX12_needs 3 none 4 93 [.long x1] F G tp w oc none x G tp w oc := by
  intro hi hm nx Q hW hQ0
  have hQ : ∀ r : (Nat → Int32), x = r → ∀ hm', mW cB cI am a1 a2 a3 r G tp w oc hm' → mFr am a1 a2 a3 hm hm' → Q none hi hm' nx := fun r hr => by subst hr; exact hQ0
  have hFr : mFr am a1 a2 a3 hm hm := mFr.rf
  clear hQ0
  refine zM_of (by decide +kernel) (Nat.le_of_ble_eq_true rfl) ?_
  unfold mneeds at h
  refine zV_eq (lo2 := [(0, .ref am), (1, .long x1)]) rfl rfl rfl rfl ?_
  refine zV_blk (pc' := 1) (lo' := [(0, .ref am), (1, .long x1)]) (st' := [.ref am]) [.aload_n 0] (by decide +kernel) rfl ?_
  obtain ⟨v1, hv1, h⟩ := zbind h
  refine m_cR (idx := 86) (rest := []) hW (cmisFine s0 D cB cI cJ cD am a1 a2 a3 F G tp w oc  v1 hv1) oX12_isFine rfl (zT_mem 1547 (by decide +kernel) rfl) (zT_mem 1549 (by decide +kernel) rfl) (zT_mem 23 (by decide +kernel) rfl) rfl rfl (Nat.le_of_ble_eq_true rfl) ⟨by decide, by decide⟩ (by decide +kernel) ?_
  refine zV_eq (st2 := [.int (zb v1)]) rfl rfl rfl rfl ?_
  refine zV_bif_eq (tgt := 19) (off := 15) (by decide +kernel) (by decide) (fun q => ?_) (fun q => ?_)
  · replace h := zif_neg q h
    clear q
    obtain rfl := Option.some.inj h
    exact zV_vret rfl (by decide +kernel) (hQ _ rfl hm hW hFr)
  · replace h := zif_pos q h
    clear q
    refine zV_blk (pc' := 9) (lo' := [(0, .ref am), (1, .long x1)]) (st' := [.long x1, .ref am]) [.aload_n 0, .lload_n 1] (by decide +kernel) rfl ?_
    obtain ⟨v2, hv2, h⟩ := zbind h
    refine m_cC (idx := 104) (rest := []) hW (cmtakes s0 D cB cI cJ cD am a1 a2 a3 F G tp w oc n x1 v2 hv2) oX12_takes rfl (zT_mem 1585 (by decide +kernel) rfl) (zT_mem 1587 (by decide +kernel) rfl) (zT_mem 31 (by decide +kernel) rfl) rfl rfl (Nat.le_of_ble_eq_true rfl) ⟨by decide, by decide⟩ (by decide +kernel) (fun hm hW hFr2 => ?_)
    replace hFr := hFr.tr hFr2; clear hFr2
    refine zV_eq (st2 := [.int (zb v2.1)]) rfl rfl rfl rfl ?_
    refine zV_bif_ne (tgt := 19) (off := 7) (by decide +kernel) (by decide) (fun q => ?_) (fun q => ?_)
    · replace h := zif_pos q h
      clear q
      obtain rfl := Option.some.inj h
      exact zV_vret rfl (by decide +kernel) (hQ _ rfl hm hW hFr)
    · replace h := zif_neg q h
      clear q
      refine zV_blk (pc' := 16) (lo' := [(0, .ref am), (1, .long x1)]) (st' := [.ref am]) [.aload_n 0] (by decide +kernel) rfl ?_
      obtain ⟨v3, hv3, h⟩ := zbind h
      refine m_cC (idx := 107) (rest := []) hW (cmunlike s0 D cB cI cJ cD am a1 a2 a3 v2.2 G tp w oc n  v3 hv3) oX12_unlike rfl (zT_mem 1589 (by decide +kernel) rfl) (zT_mem 1591 (by decide +kernel) rfl) (zT_mem 32 (by decide +kernel) rfl) rfl rfl (Nat.le_of_ble_eq_true rfl) ⟨by decide, by decide⟩ (by decide +kernel) (fun hm hW hFr2 => ?_)
      replace hFr := hFr.tr hFr2; clear hFr2
      refine zV_eq (st2 := []) rfl rfl rfl rfl ?_
      obtain rfl := Option.some.inj h
      exact zV_vret rfl (by decide +kernel) (hQ _ rfl hm hW hFr)

def mseesNumber (n : Nat) (F : Nat → Int32) (tp : Nat → Int32) : Option (Bool × (Nat → Int32)) := (mnext n F tp).bind (fun v1 => (misDigit v1.2 tp v1.1).bind (fun v2 => (if v2 = true then (if (v1.1 : Int32) = ((v1.2 5) : Int32) then some (false, v1.2) else some (true, v1.2)) else some (false, v1.2))))
theorem oX12_seesNumber : zO yX12_seesNumber cX12_seesNumber 2 (some .boolean) 0 := ⟨zT_mem 1638 (by decide +kernel) rfl, zT_mem 94 (by decide +kernel) rfl, by decide +kernel, by decide +kernel, by decide +kernel⟩
set_option maxHeartbeats 4000000 in
set_option maxRecDepth 100000 in
theorem cmseesNumber (s0 : State) (D : va_G) (cB cI cJ cD : ClassId) (am a1 a2 a3 : Nat) (F : Nat → Int32) (G : Nat → Int64) (tp w oc : Nat → Int32) (n : Nat) (x : Bool × (Nat → Int32)) (h : mseesNumber n F tp = some x) : mC s0 D cB cI cJ cD am a1 a2 a3 yX12_seesNumber cX12_seesNumber 2 (some .boolean) 2 46 [] F G tp w oc (some (.int (zb x.1))) x.2 G tp w oc := by
  intro hi hm nx Q hW hQ0
  have hQ : ∀ r : Bool × (Nat → Int32), x = r → ∀ hm', mW cB cI am a1 a2 a3 r.2 G tp w oc hm' → mFr am a1 a2 a3 hm hm' → Q (some (.int (zb r.1))) hi hm' nx := fun r hr => by subst hr; exact hQ0
  have hFr : mFr am a1 a2 a3 hm hm := mFr.rf
  clear hQ0
  refine zM_of (by decide +kernel) (Nat.le_of_ble_eq_true rfl) ?_
  unfold mseesNumber at h
  refine zV_eq (lo2 := [(0, .ref am)]) rfl rfl rfl rfl ?_
  refine zV_blk (pc' := 1) (lo' := [(0, .ref am)]) (st' := [.ref am]) [.aload_n 0] (by decide +kernel) rfl ?_
  obtain ⟨v1, hv1, h⟩ := zbind h
  refine m_cC (idx := 75) (rest := []) hW (cmnext s0 D cB cI cJ cD am a1 a2 a3 F G tp w oc n  v1 hv1) oX12_next rfl (zT_mem 1551 (by decide +kernel) rfl) (zT_mem 1553 (by decide +kernel) rfl) (zT_mem 24 (by decide +kernel) rfl) rfl rfl (Nat.le_of_ble_eq_true rfl) ⟨by decide, by decide⟩ (by decide +kernel) (fun hm hW hFr2 => ?_)
  replace hFr := hFr.tr hFr2; clear hFr2
  refine zV_eq (st2 := [.int v1.1]) rfl rfl rfl rfl ?_
  refine zV_blk (pc' := 7) (lo' := [(1, .int v1.1), (0, .ref am)]) (st' := [.int v1.1, .ref am]) [.istore_n 1, .aload_n 0, .iload_n 1] (by decide +kernel) rfl ?_
  obtain ⟨v2, hv2, h⟩ := zbind h
  refine m_cR (idx := 110) (rest := []) hW (cmisDigit s0 D cB cI cJ cD am a1 a2 a3 v1.2 G tp w oc v1.1 v2 hv2) oX12_isDigit rfl (zT_mem 1597 (by decide +kernel) rfl) (zT_mem 1599 (by decide +kernel) rfl) (zT_mem 34 (by decide +kernel) rfl) rfl rfl (Nat.le_of_ble_eq_true rfl) ⟨by decide, by decide⟩ (by decide +kernel) ?_
  refine zV_eq (st2 := [.int (zb v2)]) rfl rfl rfl rfl ?_
  refine zV_bif_eq (tgt := 25) (off := 15) (by decide +kernel) (by decide) (fun q => ?_) (fun q => ?_)
  · replace h := zif_neg q h
    clear q
    refine zV_blk (pc' := 26) (lo' := [(1, .int v1.1), (0, .ref am)]) (st' := [.int 0]) [.iconst 0] (by decide +kernel) rfl ?_
    obtain rfl := Option.some.inj h
    refine zV_eq (st2 := [.int (zb false)]) rfl rfl rfl rfl ?_
    exact zV_bret rfl (by decide +kernel) (hQ _ rfl hm hW hFr)
  · replace h := zif_pos q h
    clear q
    refine zV_blk (pc' := 15) (lo' := [(1, .int v1.1), (0, .ref am)]) (st' := [.ref am, .int v1.1]) [.iload_n 1, .aload_n 0] (by decide +kernel) rfl ?_
    refine m_get (idx := 58) (k := 5) (v := .int (v1.2 5)) hW m_in12 (by decide) (zT_mem 1445 (by decide +kernel) rfl) rfl (by decide +kernel) ?_
    refine zV_icmp_eq (tgt := 25) (off := 7) (by decide +kernel) (by decide) (fun q => ?_) (fun q => ?_)
    · replace h := zif_pos q h
      clear q
      refine zV_blk (pc' := 26) (lo' := [(1, .int v1.1), (0, .ref am)]) (st' := [.int 0]) [.iconst 0] (by decide +kernel) rfl ?_
      obtain rfl := Option.some.inj h
      refine zV_eq (st2 := [.int (zb false)]) rfl rfl rfl rfl ?_
      exact zV_bret rfl (by decide +kernel) (hQ _ rfl hm hW hFr)
    · replace h := zif_neg q h
      clear q
      refine zV_blk (pc' := 22) (lo' := [(1, .int v1.1), (0, .ref am)]) (st' := [.int 1]) [.iconst 1] (by decide +kernel) rfl ?_
      refine zV_goto (tgt := 26) (off := 4) (by decide +kernel) (by decide) ?_
      obtain rfl := Option.some.inj h
      refine zV_eq (st2 := [.int (zb true)]) rfl rfl rfl rfl ?_
      exact zV_bret rfl (by decide +kernel) (hQ _ rfl hm hW hFr)

