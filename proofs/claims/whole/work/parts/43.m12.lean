def mdigits_18 (n : Nat) (x1 : Int32) (s : Int32 × (Nat → Int32) × (Nat → Int32)) : Option ((Int32 × (Nat → Int32) × (Nat → Int32)) ⊕ ((Nat → Int32) × (Nat → Int32))) := (if (s.1 : Int32) ≤ (0 : Int32) then some (.inr (s.2.1, s.2.2)) else zck (decide (¬ (s.1 : Int32) = 0)) ((moctet1 s.2.1 s.2.2 (48 + ((x1 / s.1) - (x1 / s.1) / 10 * 10))).bind (fun v1 => some (.inl ((s.1 / 10), v1.1, v1.2)))))
set_option maxHeartbeats 4000000 in
set_option maxRecDepth 100000 in
theorem cmdigits_18 (s0 : State) (D : va_G) (cB cI cJ cD : ClassId) (am a1 a2 a3 : Nat) (G : Nat → Int64) (tp : Nat → Int32) (w : Nat → Int32) (n : Nat) (x1 : Int32) (s : Int32 × (Nat → Int32) × (Nat → Int32)) (x : (Int32 × (Nat → Int32) × (Nat → Int32)) ⊕ ((Nat → Int32) × (Nat → Int32))) {hi hm : zHp} {nx : Nat} {Q : Option Value → zHp → zHp → Nat → Prop} {hm0 : zHp} (hW : mW cB cI am a1 a2 a3 s.2.1 G tp w s.2.2 hm) (hFr : mFr am a1 a2 a3 hm0 hm) (h : mdigits_18 n x1 s = some x) (hL18 : ∀ s : Int32 × (Nat → Int32) × (Nat → Int32), x = (.inl s) → ∀ hm', mW cB cI am a1 a2 a3 s.2.1 G tp w s.2.2 hm' → mFr am a1 a2 a3 hm0 hm' → zV s0 D (zty cB cI cJ cD) yX12_digits cX12_digits 3 none 1 21 0 0 18 [(0, .ref am), (1, .int x1), (2, .int s.1)] [] hi hm' nx Q) (hQ : ∀ r : (Nat → Int32) × (Nat → Int32), x = (.inr r) → ∀ hm', mW cB cI am a1 a2 a3 r.1 G tp w r.2 hm' → mFr am a1 a2 a3 hm0 hm' → Q none hi hm' nx) : zV s0 D (zty cB cI cJ cD) yX12_digits cX12_digits 3 none 1 21 0 0 18 [(0, .ref am), (1, .int x1), (2, .int s.1)] [] hi hm nx Q := by
  unfold mdigits_18 at h
  refine zV_blk (pc' := 19) (lo' := [(0, .ref am), (1, .int x1), (2, .int s.1)]) (st' := [.int s.1]) [.iload_n 2] (by decide +kernel) rfl ?_
  refine zV_if_le (tgt := 43) (off := 24) (by decide +kernel) (by decide) (fun q => ?_) (fun q => ?_)
  · replace h := zif_pos q h
    clear q
    obtain rfl := Option.some.inj h
    exact zV_vret rfl (by decide +kernel) (hQ _ rfl hm hW hFr)
  · replace h := zif_neg q h
    clear q
    refine zV_blk (pc' := 27) (lo' := [(0, .ref am), (1, .int x1), (2, .int s.1)]) (st' := [.int s.1, .int x1, .int 48, .ref am]) [.aload_n 0, .bipush 48, .iload_n 1, .iload_n 2] (by decide +kernel) rfl ?_
    obtain ⟨hz, h⟩ := zck_some h
    refine zV_idiv (by decide +kernel) (of_decide_eq_true hz) ?_
    refine zV_blk (pc' := 30) (lo' := [(0, .ref am), (1, .int x1), (2, .int s.1)]) (st' := [.int 10, .int (x1 / s.1), .int 48, .ref am]) [.bipush 10] (by decide +kernel) rfl ?_
    refine zV_irem (by decide +kernel) (by decide +kernel) ?_
    refine zV_blk (pc' := 32) (lo' := [(0, .ref am), (1, .int x1), (2, .int s.1)]) (st' := [.int (48 + ((x1 / s.1) - (x1 / s.1) / 10 * 10)), .ref am]) [.iadd] (by decide +kernel) rfl ?_
    obtain ⟨v1, hv1, h⟩ := zbind h
    refine m_cC (idx := 297) (rest := []) hW (cmoctet1 s0 D cB cI cJ cD am a1 a2 a3 s.2.1 G tp w s.2.2 (48 + ((x1 / s.1) - (x1 / s.1) / 10 * 10)) v1 hv1) oX12_octet1 rfl (zT_mem 1780 (by decide +kernel) rfl) (zT_mem 1782 (by decide +kernel) rfl) (zT_mem 58 (by decide +kernel) rfl) rfl rfl (Nat.le_of_ble_eq_true rfl) ⟨by decide, by decide⟩ (by decide +kernel) (fun hm hW hFr2 => ?_)
    replace hFr := hFr.tr hFr2; clear hFr2
    refine zV_eq (st2 := []) rfl rfl rfl rfl ?_
    refine zV_blk (pc' := 38) (lo' := [(0, .ref am), (1, .int x1), (2, .int s.1)]) (st' := [.int 10, .int s.1]) [.iload_n 2, .bipush 10] (by decide +kernel) rfl ?_
    refine zV_idiv (by decide +kernel) (by decide +kernel) ?_
    refine zV_blk (pc' := 40) (lo' := [(2, .int (s.1 / 10)), (0, .ref am), (1, .int x1)]) (st' := []) [.istore_n 2] (by decide +kernel) rfl ?_
    refine zV_goto (tgt := 18) (off := -22) (by decide +kernel) (by decide) ?_
    obtain rfl := Option.some.inj h
    refine zV_pick (lo2 := [(0, .ref am), (1, .int x1), (2, .int (s.1 / 10))]) [1, 2, 0] rfl ?_
    exact hL18 _ rfl hm hW hFr
theorem cmdigits_18L (s0 : State) (D : va_G) (cB cI cJ cD : ClassId) (am a1 a2 a3 : Nat) (G : Nat → Int64) (tp : Nat → Int32) (w : Nat → Int32) (n : Nat) (x1 : Int32) : ∀ (k : Nat) (s : Int32 × (Nat → Int32) × (Nat → Int32)) {hi hm : zHp} {nx : Nat} {Q : Option Value → zHp → zHp → Nat → Prop} {hm0 : zHp} (_ : mW cB cI am a1 a2 a3 s.2.1 G tp w s.2.2 hm) (_ : mFr am a1 a2 a3 hm0 hm) {x : (Nat → Int32) × (Nat → Int32)} (_ : zloop (mdigits_18 n x1) k s = some x) (hQ : ∀ r : (Nat → Int32) × (Nat → Int32), x = r → ∀ hm', mW cB cI am a1 a2 a3 r.1 G tp w r.2 hm' → mFr am a1 a2 a3 hm0 hm' → Q none hi hm' nx), zV s0 D (zty cB cI cJ cD) yX12_digits cX12_digits 3 none 1 21 0 0 18 [(0, .ref am), (1, .int x1), (2, .int s.1)] [] hi hm nx Q
  | 0, s, _, _, _, _, _, hW, hFr, _, h, _ => by cases h
  | k + 1, s, hi, hm, nx, Q, hm0, hW, hFr, x, h, hQ => by
    obtain ⟨z, hz, h1, h2⟩ := zloop_succ h
    exact cmdigits_18 s0 D cB cI cJ cD am a1 a2 a3 G tp w n x1 s z hW hFr hz (fun s' hs hm' hW' hFr' => cmdigits_18L s0 D cB cI cJ cD am a1 a2 a3 G tp w n x1 k s' hW' hFr' (h1 s' hs) hQ) (fun r hr hm' hW' hFr' => hQ r (h2 _ hr).symm hm' hW' hFr')
def mdigits_2 (n : Nat) (F : Nat → Int32) (oc : Nat → Int32) (x1 : Int32) (s : Int32) : Option ((Int32) ⊕ ((Nat → Int32) × (Nat → Int32))) := zck (decide (¬ (s : Int32) = 0)) ((if ((x1 / s) : Int32) ≤ (9 : Int32) then ((zloop (mdigits_18 n x1) n (s, F, oc)).map (fun z => .inr z)) else some (.inl (s * 10))))
set_option maxHeartbeats 4000000 in
set_option maxRecDepth 100000 in
theorem cmdigits_2 (s0 : State) (D : va_G) (cB cI cJ cD : ClassId) (am a1 a2 a3 : Nat) (F : Nat → Int32) (G : Nat → Int64) (tp : Nat → Int32) (w : Nat → Int32) (oc : Nat → Int32) (n : Nat) (x1 : Int32) (s : Int32) (x : (Int32) ⊕ ((Nat → Int32) × (Nat → Int32))) {hi hm : zHp} {nx : Nat} {Q : Option Value → zHp → zHp → Nat → Prop} {hm0 : zHp} (hW : mW cB cI am a1 a2 a3 F G tp w oc hm) (hFr : mFr am a1 a2 a3 hm0 hm) (h : mdigits_2 n F oc x1 s = some x) (hL2 : ∀ s : Int32, x = (.inl s) → ∀ hm', mW cB cI am a1 a2 a3 F G tp w oc hm' → mFr am a1 a2 a3 hm0 hm' → zV s0 D (zty cB cI cJ cD) yX12_digits cX12_digits 3 none 1 21 0 0 2 [(0, .ref am), (1, .int x1), (2, .int s)] [] hi hm' nx Q) (hQ : ∀ r : (Nat → Int32) × (Nat → Int32), x = (.inr r) → ∀ hm', mW cB cI am a1 a2 a3 r.1 G tp w r.2 hm' → mFr am a1 a2 a3 hm0 hm' → Q none hi hm' nx) : zV s0 D (zty cB cI cJ cD) yX12_digits cX12_digits 3 none 1 21 0 0 2 [(0, .ref am), (1, .int x1), (2, .int s)] [] hi hm nx Q := by
  unfold mdigits_2 at h
  refine zV_blk (pc' := 4) (lo' := [(0, .ref am), (1, .int x1), (2, .int s)]) (st' := [.int s, .int x1]) [.iload_n 1, .iload_n 2] (by decide +kernel) rfl ?_
  obtain ⟨hz, h⟩ := zck_some h
  refine zV_idiv (by decide +kernel) (of_decide_eq_true hz) ?_
  refine zV_blk (pc' := 7) (lo' := [(0, .ref am), (1, .int x1), (2, .int s)]) (st' := [.int 9, .int (x1 / s)]) [.bipush 9] (by decide +kernel) rfl ?_
  refine zV_icmp_le (tgt := 18) (off := 11) (by decide +kernel) (by decide) (fun q => ?_) (fun q => ?_)
  · replace h := zif_pos q h
    clear q
    obtain ⟨z1, h9, hx⟩ := zmap h
    clear h; subst hx; have h := h9; clear h9
    refine zV_pick (lo2 := [(0, .ref am), (1, .int x1), (2, .int s)]) [0, 1, 2] rfl ?_
    exact cmdigits_18L s0 D cB cI cJ cD am a1 a2 a3 G tp w n x1 n (s, F, oc) hW hFr h (fun r hr => hQ r (by rw [hr]))
  · replace h := zif_neg q h
    clear q
    refine zV_blk (pc' := 15) (lo' := [(2, .int (s * 10)), (0, .ref am), (1, .int x1)]) (st' := []) [.iload_n 2, .bipush 10, .imul, .istore_n 2] (by decide +kernel) rfl ?_
    refine zV_goto (tgt := 2) (off := -13) (by decide +kernel) (by decide) ?_
    obtain rfl := Option.some.inj h
    refine zV_pick (lo2 := [(0, .ref am), (1, .int x1), (2, .int (s * 10))]) [1, 2, 0] rfl ?_
    exact hL2 _ rfl hm hW hFr
theorem cmdigits_2L (s0 : State) (D : va_G) (cB cI cJ cD : ClassId) (am a1 a2 a3 : Nat) (F : Nat → Int32) (G : Nat → Int64) (tp : Nat → Int32) (w : Nat → Int32) (oc : Nat → Int32) (n : Nat) (x1 : Int32) : ∀ (k : Nat) (s : Int32) {hi hm : zHp} {nx : Nat} {Q : Option Value → zHp → zHp → Nat → Prop} {hm0 : zHp} (_ : mW cB cI am a1 a2 a3 F G tp w oc hm) (_ : mFr am a1 a2 a3 hm0 hm) {x : (Nat → Int32) × (Nat → Int32)} (_ : zloop (mdigits_2 n F oc x1) k s = some x) (hQ : ∀ r : (Nat → Int32) × (Nat → Int32), x = r → ∀ hm', mW cB cI am a1 a2 a3 r.1 G tp w r.2 hm' → mFr am a1 a2 a3 hm0 hm' → Q none hi hm' nx), zV s0 D (zty cB cI cJ cD) yX12_digits cX12_digits 3 none 1 21 0 0 2 [(0, .ref am), (1, .int x1), (2, .int s)] [] hi hm nx Q
  | 0, s, _, _, _, _, _, hW, hFr, _, h, _ => by cases h
  | k + 1, s, hi, hm, nx, Q, hm0, hW, hFr, x, h, hQ => by
    obtain ⟨z, hz, h1, h2⟩ := zloop_succ h
    exact cmdigits_2 s0 D cB cI cJ cD am a1 a2 a3 F G tp w oc n x1 s z hW hFr hz (fun s' hs hm' hW' hFr' => cmdigits_2L s0 D cB cI cJ cD am a1 a2 a3 F G tp w oc n x1 k s' hW' hFr' (h1 s' hs) hQ) (fun r hr hm' hW' hFr' => hQ r (h2 _ hr).symm hm' hW' hFr')
def mdigits (n : Nat) (F : Nat → Int32) (oc : Nat → Int32) (x1 : Int32) : Option ((Nat → Int32) × (Nat → Int32)) := (zloop (mdigits_2 n F oc x1) n 1)
theorem oX12_digits : zO yX12_digits cX12_digits 3 none 1 := ⟨zT_mem 1796 (by decide +kernel) rfl, zT_mem 94 (by decide +kernel) rfl, by decide +kernel, by decide +kernel, by decide +kernel⟩
set_option maxHeartbeats 4000000 in
set_option maxRecDepth 100000 in
theorem cmdigits (s0 : State) (D : va_G) (cB cI cJ cD : ClassId) (am a1 a2 a3 : Nat) (F : Nat → Int32) (G : Nat → Int64) (tp w oc : Nat → Int32) (n : Nat) (x1 : Int32) (x : (Nat → Int32) × (Nat → Int32)) (h : mdigits n F oc x1 = some x) : mC s0 D cB cI cJ cD am a1 a2 a3 yX12_digits cX12_digits 3 none 1 21 [.int x1] F G tp w oc none x.1 G tp w x.2 := by
  intro hi hm nx Q hW hQ0
  have hQ : ∀ r : (Nat → Int32) × (Nat → Int32), x = r → ∀ hm', mW cB cI am a1 a2 a3 r.1 G tp w r.2 hm' → mFr am a1 a2 a3 hm hm' → Q none hi hm' nx := fun r hr => by subst hr; exact hQ0
  have hFr : mFr am a1 a2 a3 hm hm := mFr.rf
  clear hQ0
  refine zM_of (by decide +kernel) (Nat.le_of_ble_eq_true rfl) ?_
  unfold mdigits at h
  refine zV_eq (lo2 := [(0, .ref am), (1, .int x1)]) rfl rfl rfl rfl ?_
  refine zV_blk (pc' := 2) (lo' := [(2, .int 1), (0, .ref am), (1, .int x1)]) (st' := []) [.iconst 1, .istore_n 2] (by decide +kernel) rfl ?_
  refine zV_pick (lo2 := [(0, .ref am), (1, .int x1), (2, .int 1)]) [1, 2, 0] rfl ?_
  exact cmdigits_2L s0 D cB cI cJ cD am a1 a2 a3 F G tp w oc n x1 n 1 hW hFr h hQ

def mwritesWord_58 (n : Nat) (x1 : Int64) (s : Int32 × (Nat → Int32) × (Nat → Int32)) : Option ((Int32 × (Nat → Int32) × (Nat → Int32)) ⊕ ((Nat → Int32) × (Nat → Int32))) := (if (s.1 : Int32) < (0 : Int32) then some (.inr (s.2.1, s.2.2)) else (moctet1 s.2.1 s.2.2 ((((x1 >>> (((5 * s.1) : Int32).toInt64 &&& 63)) &&& 31) : Int64).toInt32 + 96)).bind (fun v1 => some (.inl ((s.1 + (-1)), v1.1, v1.2))))
set_option maxHeartbeats 4000000 in
set_option maxRecDepth 100000 in
theorem cmwritesWord_58 (s0 : State) (D : va_G) (cB cI cJ cD : ClassId) (am a1 a2 a3 : Nat) (G : Nat → Int64) (tp : Nat → Int32) (w : Nat → Int32) (n : Nat) (x1 : Int64) (s : Int32 × (Nat → Int32) × (Nat → Int32)) (x : (Int32 × (Nat → Int32) × (Nat → Int32)) ⊕ ((Nat → Int32) × (Nat → Int32))) {hi hm : zHp} {nx : Nat} {Q : Option Value → zHp → zHp → Nat → Prop} {hm0 : zHp} (hW : mW cB cI am a1 a2 a3 s.2.1 G tp w s.2.2 hm) (hFr : mFr am a1 a2 a3 hm0 hm) (h : mwritesWord_58 n x1 s = some x) (hL58 : ∀ s : Int32 × (Nat → Int32) × (Nat → Int32), x = (.inl s) → ∀ hm', mW cB cI am a1 a2 a3 s.2.1 G tp w s.2.2 hm' → mFr am a1 a2 a3 hm0 hm' → zV s0 D (zty cB cI cJ cD) yX12_writesWord cX12_writesWord 5 none 1 21 0 0 58 [(0, .ref am), (1, .long x1), (4, .int s.1)] [] hi hm' nx Q) (hQ : ∀ r : (Nat → Int32) × (Nat → Int32), x = (.inr r) → ∀ hm', mW cB cI am a1 a2 a3 r.1 G tp w r.2 hm' → mFr am a1 a2 a3 hm0 hm' → Q none hi hm' nx) : zV s0 D (zty cB cI cJ cD) yX12_writesWord cX12_writesWord 5 none 1 21 0 0 58 [(0, .ref am), (1, .long x1), (4, .int s.1)] [] hi hm nx Q := by
  unfold mwritesWord_58 at h
  refine zV_blk (pc' := 60) (lo' := [(0, .ref am), (1, .long x1), (4, .int s.1)]) (st' := [.int s.1]) [.iload 4] (by decide +kernel) rfl ?_
  refine zV_if_lt (tgt := 87) (off := 27) (by decide +kernel) (by decide) (fun q => ?_) (fun q => ?_)
  · replace h := zif_pos q h
    clear q
    obtain rfl := Option.some.inj h
    exact zV_vret rfl (by decide +kernel) (hQ _ rfl hm hW hFr)
  · replace h := zif_neg q h
    clear q
    refine zV_blk (pc' := 70) (lo' := [(0, .ref am), (1, .long x1), (4, .int s.1)]) (st' := [.long (x1 >>> (((5 * s.1) : Int32).toInt64 &&& 63)), .ref am]) [.aload_n 0, .lload_n 1, .iconst 5, .iload 4, .imul, .lshr] (by decide +kernel) rfl ?_
    refine zV_ldc2 (idx := 300) (v := 31) (zT_mem 1784 (by decide +kernel) rfl) (by decide +kernel) ?_
    refine zV_blk (pc' := 78) (lo' := [(0, .ref am), (1, .long x1), (4, .int s.1)]) (st' := [.int ((((x1 >>> (((5 * s.1) : Int32).toInt64 &&& 63)) &&& 31) : Int64).toInt32 + 96), .ref am]) [.land, .l2i, .bipush 96, .iadd] (by decide +kernel) rfl ?_
    obtain ⟨v1, hv1, h⟩ := zbind h
    refine m_cC (idx := 297) (rest := []) hW (cmoctet1 s0 D cB cI cJ cD am a1 a2 a3 s.2.1 G tp w s.2.2 ((((x1 >>> (((5 * s.1) : Int32).toInt64 &&& 63)) &&& 31) : Int64).toInt32 + 96) v1 hv1) oX12_octet1 rfl (zT_mem 1780 (by decide +kernel) rfl) (zT_mem 1782 (by decide +kernel) rfl) (zT_mem 58 (by decide +kernel) rfl) rfl rfl (Nat.le_of_ble_eq_true rfl) ⟨by decide, by decide⟩ (by decide +kernel) (fun hm hW hFr2 => ?_)
    replace hFr := hFr.tr hFr2; clear hFr2
    refine zV_eq (st2 := []) rfl rfl rfl rfl ?_
    refine zV_blk (pc' := 84) (lo' := [(4, .int (s.1 + (-1))), (0, .ref am), (1, .long x1)]) (st' := []) [.iinc 4 (-1)] (by decide +kernel) rfl ?_
    refine zV_goto (tgt := 58) (off := -26) (by decide +kernel) (by decide) ?_
    obtain rfl := Option.some.inj h
    refine zV_pick (lo2 := [(0, .ref am), (1, .long x1), (4, .int (s.1 + (-1)))]) [1, 2, 0] rfl ?_
    exact hL58 _ rfl hm hW hFr
theorem cmwritesWord_58L (s0 : State) (D : va_G) (cB cI cJ cD : ClassId) (am a1 a2 a3 : Nat) (G : Nat → Int64) (tp : Nat → Int32) (w : Nat → Int32) (n : Nat) (x1 : Int64) : ∀ (k : Nat) (s : Int32 × (Nat → Int32) × (Nat → Int32)) {hi hm : zHp} {nx : Nat} {Q : Option Value → zHp → zHp → Nat → Prop} {hm0 : zHp} (_ : mW cB cI am a1 a2 a3 s.2.1 G tp w s.2.2 hm) (_ : mFr am a1 a2 a3 hm0 hm) {x : (Nat → Int32) × (Nat → Int32)} (_ : zloop (mwritesWord_58 n x1) k s = some x) (hQ : ∀ r : (Nat → Int32) × (Nat → Int32), x = r → ∀ hm', mW cB cI am a1 a2 a3 r.1 G tp w r.2 hm' → mFr am a1 a2 a3 hm0 hm' → Q none hi hm' nx), zV s0 D (zty cB cI cJ cD) yX12_writesWord cX12_writesWord 5 none 1 21 0 0 58 [(0, .ref am), (1, .long x1), (4, .int s.1)] [] hi hm nx Q
  | 0, s, _, _, _, _, _, hW, hFr, _, h, _ => by cases h
  | k + 1, s, hi, hm, nx, Q, hm0, hW, hFr, x, h, hQ => by
    obtain ⟨z, hz, h1, h2⟩ := zloop_succ h
    exact cmwritesWord_58 s0 D cB cI cJ cD am a1 a2 a3 G tp w n x1 s z hW hFr hz (fun s' hs hm' hW' hFr' => cmwritesWord_58L s0 D cB cI cJ cD am a1 a2 a3 G tp w n x1 k s' hW' hFr' (h1 s' hs) hQ) (fun r hr hm' hW' hFr' => hQ r (h2 _ hr).symm hm' hW' hFr')
def mwritesWord_53 (n : Nat) (F : Nat → Int32) (oc : Nat → Int32) (x1 : Int64) (x3 : Int32) : Option ((Nat → Int32) × (Nat → Int32)) := (zloop (mwritesWord_58 n x1) n ((x3 - 1), F, oc))
set_option maxHeartbeats 4000000 in
set_option maxRecDepth 100000 in
theorem cmwritesWord_53 (s0 : State) (D : va_G) (cB cI cJ cD : ClassId) (am a1 a2 a3 : Nat) (F : Nat → Int32) (G : Nat → Int64) (tp w oc : Nat → Int32) (n : Nat) (x1 : Int64) (x3 : Int32) {hi hm : zHp} {nx : Nat} {Q : Option Value → zHp → zHp → Nat → Prop} {hm0 : zHp} {x : (Nat → Int32) × (Nat → Int32)} (hW : mW cB cI am a1 a2 a3 F G tp w oc hm) (hFr : mFr am a1 a2 a3 hm0 hm) (h : mwritesWord_53 n F oc x1 x3 = some x) (hQ : ∀ r : (Nat → Int32) × (Nat → Int32), x = r → ∀ hm', mW cB cI am a1 a2 a3 r.1 G tp w r.2 hm' → mFr am a1 a2 a3 hm0 hm' → Q none hi hm' nx) : zV s0 D (zty cB cI cJ cD) yX12_writesWord cX12_writesWord 5 none 1 21 0 0 53 [(0, .ref am), (1, .long x1), (3, .int x3)] [] hi hm nx Q := by
  unfold mwritesWord_53 at h
  refine zV_blk (pc' := 58) (lo' := [(4, .int (x3 - 1)), (0, .ref am), (1, .long x1), (3, .int x3)]) (st' := []) [.iload_n 3, .iconst 1, .isub, .istore 4] (by decide +kernel) rfl ?_
  refine zV_pick (lo2 := [(0, .ref am), (1, .long x1), (4, .int (x3 - 1))]) [1, 2, 0] rfl ?_
  exact cmwritesWord_58L s0 D cB cI cJ cD am a1 a2 a3 G tp w n x1 n ((x3 - 1), F, oc) hW hFr h hQ
def mwritesWord_31 (n : Nat) (F : Nat → Int32) (oc : Nat → Int32) (x1 : Int64) (s : Int32) : Option ((Int32) ⊕ ((Nat → Int32) × (Nat → Int32))) := (if (6 : Int32) ≤ (s : Int32) then ((mwritesWord_53 n F oc x1 s).map (fun z => .inr z)) else (if ((x1 >>> (((5 * s) : Int32).toInt64 &&& 63)) : Int64) ≤ (0 : Int64) then ((mwritesWord_53 n F oc x1 s).map (fun z => .inr z)) else some (.inl (s + 1))))
set_option maxHeartbeats 4000000 in
set_option maxRecDepth 100000 in
theorem cmwritesWord_31 (s0 : State) (D : va_G) (cB cI cJ cD : ClassId) (am a1 a2 a3 : Nat) (F : Nat → Int32) (G : Nat → Int64) (tp : Nat → Int32) (w : Nat → Int32) (oc : Nat → Int32) (n : Nat) (x1 : Int64) (s : Int32) (x : (Int32) ⊕ ((Nat → Int32) × (Nat → Int32))) {hi hm : zHp} {nx : Nat} {Q : Option Value → zHp → zHp → Nat → Prop} {hm0 : zHp} (hW : mW cB cI am a1 a2 a3 F G tp w oc hm) (hFr : mFr am a1 a2 a3 hm0 hm) (h : mwritesWord_31 n F oc x1 s = some x) (hL31 : ∀ s : Int32, x = (.inl s) → ∀ hm', mW cB cI am a1 a2 a3 F G tp w oc hm' → mFr am a1 a2 a3 hm0 hm' → zV s0 D (zty cB cI cJ cD) yX12_writesWord cX12_writesWord 5 none 1 21 0 0 31 [(0, .ref am), (1, .long x1), (3, .int s)] [] hi hm' nx Q) (hQ : ∀ r : (Nat → Int32) × (Nat → Int32), x = (.inr r) → ∀ hm', mW cB cI am a1 a2 a3 r.1 G tp w r.2 hm' → mFr am a1 a2 a3 hm0 hm' → Q none hi hm' nx) : zV s0 D (zty cB cI cJ cD) yX12_writesWord cX12_writesWord 5 none 1 21 0 0 31 [(0, .ref am), (1, .long x1), (3, .int s)] [] hi hm nx Q := by
  unfold mwritesWord_31 at h
  refine zV_blk (pc' := 34) (lo' := [(0, .ref am), (1, .long x1), (3, .int s)]) (st' := [.int 6, .int s]) [.iload_n 3, .bipush 6] (by decide +kernel) rfl ?_
  refine zV_icmp_ge (tgt := 53) (off := 19) (by decide +kernel) (by decide) (fun q => ?_) (fun q => ?_)
  · replace h := zif_pos q h
    clear q
    obtain ⟨z1, h9, hx⟩ := zmap h
    clear h; subst hx; have h := h9; clear h9
    refine zV_pick (lo2 := [(0, .ref am), (1, .long x1), (3, .int s)]) [0, 1, 2] rfl ?_
    exact cmwritesWord_53 s0 D cB cI cJ cD am a1 a2 a3 F G tp w oc n x1 s hW hFr h (fun r hr => hQ r (by rw [hr]))
  · replace h := zif_neg q h
    clear q
    refine zV_blk (pc' := 44) (lo' := [(0, .ref am), (1, .long x1), (3, .int s)]) (st' := [.int (lg_cmp (x1 >>> (((5 * s) : Int32).toInt64 &&& 63)) 0)]) [.lload_n 1, .iconst 5, .iload_n 3, .imul, .lshr, .lconst 0, .lcmp] (by decide +kernel) rfl ?_
    refine zV_lcmp_le (tgt := 53) (off := 9) (by decide +kernel) (by decide) (fun q => ?_) (fun q => ?_)
    · replace h := zif_pos q h
      clear q
      obtain ⟨z2, h9, hx⟩ := zmap h
      clear h; subst hx; have h := h9; clear h9
      refine zV_pick (lo2 := [(0, .ref am), (1, .long x1), (3, .int s)]) [0, 1, 2] rfl ?_
      exact cmwritesWord_53 s0 D cB cI cJ cD am a1 a2 a3 F G tp w oc n x1 s hW hFr h (fun r hr => hQ r (by rw [hr]))
    · replace h := zif_neg q h
      clear q
      refine zV_blk (pc' := 50) (lo' := [(3, .int (s + 1)), (0, .ref am), (1, .long x1)]) (st' := []) [.iinc 3 1] (by decide +kernel) rfl ?_
      refine zV_goto (tgt := 31) (off := -19) (by decide +kernel) (by decide) ?_
      obtain rfl := Option.some.inj h
      refine zV_pick (lo2 := [(0, .ref am), (1, .long x1), (3, .int (s + 1))]) [1, 2, 0] rfl ?_
      exact hL31 _ rfl hm hW hFr
theorem cmwritesWord_31L (s0 : State) (D : va_G) (cB cI cJ cD : ClassId) (am a1 a2 a3 : Nat) (F : Nat → Int32) (G : Nat → Int64) (tp : Nat → Int32) (w : Nat → Int32) (oc : Nat → Int32) (n : Nat) (x1 : Int64) : ∀ (k : Nat) (s : Int32) {hi hm : zHp} {nx : Nat} {Q : Option Value → zHp → zHp → Nat → Prop} {hm0 : zHp} (_ : mW cB cI am a1 a2 a3 F G tp w oc hm) (_ : mFr am a1 a2 a3 hm0 hm) {x : (Nat → Int32) × (Nat → Int32)} (_ : zloop (mwritesWord_31 n F oc x1) k s = some x) (hQ : ∀ r : (Nat → Int32) × (Nat → Int32), x = r → ∀ hm', mW cB cI am a1 a2 a3 r.1 G tp w r.2 hm' → mFr am a1 a2 a3 hm0 hm' → Q none hi hm' nx), zV s0 D (zty cB cI cJ cD) yX12_writesWord cX12_writesWord 5 none 1 21 0 0 31 [(0, .ref am), (1, .long x1), (3, .int s)] [] hi hm nx Q
  | 0, s, _, _, _, _, _, hW, hFr, _, h, _ => by cases h
  | k + 1, s, hi, hm, nx, Q, hm0, hW, hFr, x, h, hQ => by
    obtain ⟨z, hz, h1, h2⟩ := zloop_succ h
    exact cmwritesWord_31 s0 D cB cI cJ cD am a1 a2 a3 F G tp w oc n x1 s z hW hFr hz (fun s' hs hm' hW' hFr' => cmwritesWord_31L s0 D cB cI cJ cD am a1 a2 a3 F G tp w oc n x1 k s' hW' hFr' (h1 s' hs) hQ) (fun r hr hm' hW' hFr' => hQ r (h2 _ hr).symm hm' hW' hFr')
def mwritesWord_29 (n : Nat) (F : Nat → Int32) (oc : Nat → Int32) (x1 : Int64) : Option ((Nat → Int32) × (Nat → Int32)) := (zloop (mwritesWord_31 n F oc x1) n 0)
set_option maxHeartbeats 4000000 in
set_option maxRecDepth 100000 in
theorem cmwritesWord_29 (s0 : State) (D : va_G) (cB cI cJ cD : ClassId) (am a1 a2 a3 : Nat) (F : Nat → Int32) (G : Nat → Int64) (tp w oc : Nat → Int32) (n : Nat) (x1 : Int64) {hi hm : zHp} {nx : Nat} {Q : Option Value → zHp → zHp → Nat → Prop} {hm0 : zHp} {x : (Nat → Int32) × (Nat → Int32)} (hW : mW cB cI am a1 a2 a3 F G tp w oc hm) (hFr : mFr am a1 a2 a3 hm0 hm) (h : mwritesWord_29 n F oc x1 = some x) (hQ : ∀ r : (Nat → Int32) × (Nat → Int32), x = r → ∀ hm', mW cB cI am a1 a2 a3 r.1 G tp w r.2 hm' → mFr am a1 a2 a3 hm0 hm' → Q none hi hm' nx) : zV s0 D (zty cB cI cJ cD) yX12_writesWord cX12_writesWord 5 none 1 21 0 0 29 [(0, .ref am), (1, .long x1)] [] hi hm nx Q := by
  unfold mwritesWord_29 at h
  refine zV_blk (pc' := 31) (lo' := [(3, .int 0), (0, .ref am), (1, .long x1)]) (st' := []) [.iconst 0, .istore_n 3] (by decide +kernel) rfl ?_
  refine zV_pick (lo2 := [(0, .ref am), (1, .long x1), (3, .int 0)]) [1, 2, 0] rfl ?_
  exact cmwritesWord_31L s0 D cB cI cJ cD am a1 a2 a3 F G tp w oc n x1 n 0 hW hFr h hQ
def mwritesWord (n : Nat) (F : Nat → Int32) (oc : Nat → Int32) (x1 : Int64) : Option ((Nat → Int32) × (Nat → Int32)) := (if ((F 16) : Int32) ≤ (0 : Int32) then (mwritesWord_29 n F oc x1) else zck (zin (((F 16) - 1)) 2400) ((if ((oc (((F 16) - 1) : Int32).toNatClampNeg) : Int32) = (59 : Int32) then (mwritesWord_29 n F oc x1) else (moctet1 F oc 32).bind (fun v1 => (mwritesWord_29 n v1.1 v1.2 x1)))))
theorem oX12_writesWord : zO yX12_writesWord cX12_writesWord 5 none 1 := ⟨zT_mem 1779 (by decide +kernel) rfl, zT_mem 94 (by decide +kernel) rfl, by decide +kernel, by decide +kernel, by decide +kernel⟩
set_option maxHeartbeats 4000000 in
set_option maxRecDepth 100000 in
theorem cmwritesWord (s0 : State) (D : va_G) (cB cI cJ cD : ClassId) (am a1 a2 a3 : Nat) (F : Nat → Int32) (G : Nat → Int64) (tp w oc : Nat → Int32) (n : Nat) (x1 : Int64) (x : (Nat → Int32) × (Nat → Int32)) (h : mwritesWord n F oc x1 = some x) : mC s0 D cB cI cJ cD am a1 a2 a3 yX12_writesWord cX12_writesWord 5 none 1 21 [.long x1] F G tp w oc none x.1 G tp w x.2 := by
  intro hi hm nx Q hW hQ0
  have hQ : ∀ r : (Nat → Int32) × (Nat → Int32), x = r → ∀ hm', mW cB cI am a1 a2 a3 r.1 G tp w r.2 hm' → mFr am a1 a2 a3 hm hm' → Q none hi hm' nx := fun r hr => by subst hr; exact hQ0
  have hFr : mFr am a1 a2 a3 hm hm := mFr.rf
  clear hQ0
  refine zM_of (by decide +kernel) (Nat.le_of_ble_eq_true rfl) ?_
  unfold mwritesWord at h
  refine zV_eq (lo2 := [(0, .ref am), (1, .long x1)]) rfl rfl rfl rfl ?_
  refine zV_blk (pc' := 1) (lo' := [(0, .ref am), (1, .long x1)]) (st' := [.ref am]) [.aload_n 0] (by decide +kernel) rfl ?_
  refine m_get (idx := 294) (k := 16) (v := .int (F 16)) hW m_in12 (by decide) (zT_mem 1456 (by decide +kernel) rfl) rfl (by decide +kernel) ?_
  refine zV_if_le (tgt := 29) (off := 25) (by decide +kernel) (by decide) (fun q => ?_) (fun q => ?_)
  · replace h := zif_pos q h
    clear q
    refine zV_pick (lo2 := [(0, .ref am), (1, .long x1)]) [0, 1] rfl ?_
    exact cmwritesWord_29 s0 D cB cI cJ cD am a1 a2 a3 F G tp w oc n x1 hW hFr h hQ
  · replace h := zif_neg q h
    clear q
    refine zV_blk (pc' := 8) (lo' := [(0, .ref am), (1, .long x1)]) (st' := [.ref am]) [.aload_n 0] (by decide +kernel) rfl ?_
    refine m_get (idx := 22) (k := 15) (v := .ref a3) hW m_in12 (by decide) (zT_mem 1455 (by decide +kernel) rfl) rfl (by decide +kernel) ?_
    refine zV_blk (pc' := 12) (lo' := [(0, .ref am), (1, .long x1)]) (st' := [.ref am, .ref a3]) [.aload_n 0] (by decide +kernel) rfl ?_
    refine m_get (idx := 294) (k := 16) (v := .int (F 16)) hW m_in12 (by decide) (zT_mem 1456 (by decide +kernel) rfl) rfl (by decide +kernel) ?_
    refine zV_blk (pc' := 17) (lo' := [(0, .ref am), (1, .long x1)]) (st' := [.int ((F 16) - 1), .ref a3]) [.iconst 1, .isub] (by decide +kernel) rfl ?_
    obtain ⟨hz, h⟩ := zck_some h
    refine m_old hW hz (by decide +kernel) ?_
    refine zV_blk (pc' := 20) (lo' := [(0, .ref am), (1, .long x1)]) (st' := [.int 59, .int (oc (((F 16) - 1) : Int32).toNatClampNeg)]) [.bipush 59] (by decide +kernel) rfl ?_
    refine zV_icmp_eq (tgt := 29) (off := 9) (by decide +kernel) (by decide) (fun q => ?_) (fun q => ?_)
    · replace h := zif_pos q h
      clear q
      refine zV_pick (lo2 := [(0, .ref am), (1, .long x1)]) [0, 1] rfl ?_
      exact cmwritesWord_29 s0 D cB cI cJ cD am a1 a2 a3 F G tp w oc n x1 hW hFr h hQ
    · replace h := zif_neg q h
      clear q
      refine zV_blk (pc' := 26) (lo' := [(0, .ref am), (1, .long x1)]) (st' := [.int 32, .ref am]) [.aload_n 0, .bipush 32] (by decide +kernel) rfl ?_
      obtain ⟨v1, hv1, h⟩ := zbind h
      refine m_cC (idx := 297) (rest := []) hW (cmoctet1 s0 D cB cI cJ cD am a1 a2 a3 F G tp w oc 32 v1 hv1) oX12_octet1 rfl (zT_mem 1780 (by decide +kernel) rfl) (zT_mem 1782 (by decide +kernel) rfl) (zT_mem 58 (by decide +kernel) rfl) rfl rfl (Nat.le_of_ble_eq_true rfl) ⟨by decide, by decide⟩ (by decide +kernel) (fun hm hW hFr2 => ?_)
      replace hFr := hFr.tr hFr2; clear hFr2
      refine zV_eq (st2 := []) rfl rfl rfl rfl ?_
      refine zV_pick (lo2 := [(0, .ref am), (1, .long x1)]) [0, 1] rfl ?_
      exact cmwritesWord_29 s0 D cB cI cJ cD am a1 a2 a3 v1.1 G tp w v1.2 n x1 hW hFr h hQ

def mwrites (n : Nat) (F : Nat → Int32) (oc : Nat → Int32) (x1 : Int32) : Option ((Nat → Int32) × (Nat → Int32)) := (moctet1 F oc 32).bind (fun v1 => (mdigits n v1.1 v1.2 x1).bind (fun v2 => some (v2.1, v2.2)))
theorem oX12_writes : zO yX12_writes cX12_writes 2 none 1 := ⟨zT_mem 1792 (by decide +kernel) rfl, zT_mem 94 (by decide +kernel) rfl, by decide +kernel, by decide +kernel, by decide +kernel⟩
set_option maxHeartbeats 4000000 in
set_option maxRecDepth 100000 in
theorem cmwrites (s0 : State) (D : va_G) (cB cI cJ cD : ClassId) (am a1 a2 a3 : Nat) (F : Nat → Int32) (G : Nat → Int64) (tp w oc : Nat → Int32) (n : Nat) (x1 : Int32) (x : (Nat → Int32) × (Nat → Int32)) (h : mwrites n F oc x1 = some x) : mC s0 D cB cI cJ cD am a1 a2 a3 yX12_writes cX12_writes 2 none 2 43 [.int x1] F G tp w oc none x.1 G tp w x.2 := by
  intro hi hm nx Q hW hQ0
  have hQ : ∀ r : (Nat → Int32) × (Nat → Int32), x = r → ∀ hm', mW cB cI am a1 a2 a3 r.1 G tp w r.2 hm' → mFr am a1 a2 a3 hm hm' → Q none hi hm' nx := fun r hr => by subst hr; exact hQ0
  have hFr : mFr am a1 a2 a3 hm hm := mFr.rf
  clear hQ0
  refine zM_of (by decide +kernel) (Nat.le_of_ble_eq_true rfl) ?_
  unfold mwrites at h
  refine zV_eq (lo2 := [(0, .ref am), (1, .int x1)]) rfl rfl rfl rfl ?_
  refine zV_blk (pc' := 3) (lo' := [(0, .ref am), (1, .int x1)]) (st' := [.int 32, .ref am]) [.aload_n 0, .bipush 32] (by decide +kernel) rfl ?_
  obtain ⟨v1, hv1, h⟩ := zbind h
  refine m_cC (idx := 297) (rest := []) hW (cmoctet1 s0 D cB cI cJ cD am a1 a2 a3 F G tp w oc 32 v1 hv1) oX12_octet1 rfl (zT_mem 1780 (by decide +kernel) rfl) (zT_mem 1782 (by decide +kernel) rfl) (zT_mem 58 (by decide +kernel) rfl) rfl rfl (Nat.le_of_ble_eq_true rfl) ⟨by decide, by decide⟩ (by decide +kernel) (fun hm hW hFr2 => ?_)
  replace hFr := hFr.tr hFr2; clear hFr2
  refine zV_eq (st2 := []) rfl rfl rfl rfl ?_
  refine zV_blk (pc' := 8) (lo' := [(0, .ref am), (1, .int x1)]) (st' := [.int x1, .ref am]) [.aload_n 0, .iload_n 1] (by decide +kernel) rfl ?_
  obtain ⟨v2, hv2, h⟩ := zbind h
  refine m_cC (idx := 302) (rest := []) hW (cmdigits s0 D cB cI cJ cD am a1 a2 a3 v1.1 G tp w v1.2 n x1 v2 hv2) oX12_digits rfl (zT_mem 1793 (by decide +kernel) rfl) (zT_mem 1795 (by decide +kernel) rfl) (zT_mem 61 (by decide +kernel) rfl) rfl rfl (Nat.le_of_ble_eq_true rfl) ⟨by decide, by decide⟩ (by decide +kernel) (fun hm hW hFr2 => ?_)
  replace hFr := hFr.tr hFr2; clear hFr2
  refine zV_eq (st2 := []) rfl rfl rfl rfl ?_
  obtain rfl := Option.some.inj h
  exact zV_vret rfl (by decide +kernel) (hQ _ rfl hm hW hFr)

def mwritesTold (n : Nat) (F : Nat → Int32) (oc : Nat → Int32) (x1 : Int64) (x3 : Int32) : Option ((Nat → Int32) × (Nat → Int32)) := (mwritesWord n F oc x1).bind (fun v1 => (mwrites n v1.1 v1.2 x3).bind (fun v2 => some (v2.1, v2.2)))
theorem oX12_writesTold : zO yX12_writesTold cX12_writesTold 4 none 2 := ⟨zT_mem 1804 (by decide +kernel) rfl, zT_mem 94 (by decide +kernel) rfl, by decide +kernel, by decide +kernel, by decide +kernel⟩
set_option maxHeartbeats 4000000 in
set_option maxRecDepth 100000 in
theorem cmwritesTold (s0 : State) (D : va_G) (cB cI cJ cD : ClassId) (am a1 a2 a3 : Nat) (F : Nat → Int32) (G : Nat → Int64) (tp w oc : Nat → Int32) (n : Nat) (x1 : Int64) (x3 : Int32) (x : (Nat → Int32) × (Nat → Int32)) (h : mwritesTold n F oc x1 x3 = some x) : mC s0 D cB cI cJ cD am a1 a2 a3 yX12_writesTold cX12_writesTold 4 none 3 64 [.long x1, .int x3] F G tp w oc none x.1 G tp w x.2 := by
  intro hi hm nx Q hW hQ0
  have hQ : ∀ r : (Nat → Int32) × (Nat → Int32), x = r → ∀ hm', mW cB cI am a1 a2 a3 r.1 G tp w r.2 hm' → mFr am a1 a2 a3 hm hm' → Q none hi hm' nx := fun r hr => by subst hr; exact hQ0
  have hFr : mFr am a1 a2 a3 hm hm := mFr.rf
  clear hQ0
  refine zM_of (by decide +kernel) (Nat.le_of_ble_eq_true rfl) ?_
  unfold mwritesTold at h
  refine zV_eq (lo2 := [(0, .ref am), (1, .long x1), (3, .int x3)]) rfl rfl rfl rfl ?_
  refine zV_blk (pc' := 2) (lo' := [(0, .ref am), (1, .long x1), (3, .int x3)]) (st' := [.long x1, .ref am]) [.aload_n 0, .lload_n 1] (by decide +kernel) rfl ?_
  obtain ⟨v1, hv1, h⟩ := zbind h
  refine m_cC (idx := 305) (rest := []) hW (cmwritesWord s0 D cB cI cJ cD am a1 a2 a3 F G tp w oc n x1 v1 hv1) oX12_writesWord rfl (zT_mem 1776 (by decide +kernel) rfl) (zT_mem 1778 (by decide +kernel) rfl) (zT_mem 57 (by decide +kernel) rfl) rfl rfl (Nat.le_of_ble_eq_true rfl) ⟨by decide, by decide⟩ (by decide +kernel) (fun hm hW hFr2 => ?_)
  replace hFr := hFr.tr hFr2; clear hFr2
  refine zV_eq (st2 := []) rfl rfl rfl rfl ?_
  refine zV_blk (pc' := 7) (lo' := [(0, .ref am), (1, .long x1), (3, .int x3)]) (st' := [.int x3, .ref am]) [.aload_n 0, .iload_n 3] (by decide +kernel) rfl ?_
  obtain ⟨v2, hv2, h⟩ := zbind h
  refine m_cC (idx := 308) (rest := []) hW (cmwrites s0 D cB cI cJ cD am a1 a2 a3 v1.1 G tp w v1.2 n x3 v2 hv2) oX12_writes rfl (zT_mem 1789 (by decide +kernel) rfl) (zT_mem 1791 (by decide +kernel) rfl) (zT_mem 60 (by decide +kernel) rfl) rfl rfl (Nat.le_of_ble_eq_true rfl) ⟨by decide, by decide⟩ (by decide +kernel) (fun hm hW hFr2 => ?_)
  replace hFr := hFr.tr hFr2; clear hFr2
  refine zV_eq (st2 := []) rfl rfl rfl rfl ?_
  obtain rfl := Option.some.inj h
  exact zV_vret rfl (by decide +kernel) (hQ _ rfl hm hW hFr)

def mwritesLast (n : Nat) (F : Nat → Int32) (oc : Nat → Int32) (x1 : Int32) : Option ((Nat → Int32) × (Nat → Int32)) := (mwrites n F oc x1).bind (fun v1 => (moctet1 v1.1 v1.2 59).bind (fun v2 => some (v2.1, v2.2)))
theorem oX12_writesLast : zO yX12_writesLast cX12_writesLast 2 none 1 := ⟨zT_mem 1788 (by decide +kernel) rfl, zT_mem 94 (by decide +kernel) rfl, by decide +kernel, by decide +kernel, by decide +kernel⟩
set_option maxHeartbeats 4000000 in
set_option maxRecDepth 100000 in
theorem cmwritesLast (s0 : State) (D : va_G) (cB cI cJ cD : ClassId) (am a1 a2 a3 : Nat) (F : Nat → Int32) (G : Nat → Int64) (tp w oc : Nat → Int32) (n : Nat) (x1 : Int32) (x : (Nat → Int32) × (Nat → Int32)) (h : mwritesLast n F oc x1 = some x) : mC s0 D cB cI cJ cD am a1 a2 a3 yX12_writesLast cX12_writesLast 2 none 3 64 [.int x1] F G tp w oc none x.1 G tp w x.2 := by
  intro hi hm nx Q hW hQ0
  have hQ : ∀ r : (Nat → Int32) × (Nat → Int32), x = r → ∀ hm', mW cB cI am a1 a2 a3 r.1 G tp w r.2 hm' → mFr am a1 a2 a3 hm hm' → Q none hi hm' nx := fun r hr => by subst hr; exact hQ0
  have hFr : mFr am a1 a2 a3 hm hm := mFr.rf
  clear hQ0
  refine zM_of (by decide +kernel) (Nat.le_of_ble_eq_true rfl) ?_
  unfold mwritesLast at h
  refine zV_eq (lo2 := [(0, .ref am), (1, .int x1)]) rfl rfl rfl rfl ?_
  refine zV_blk (pc' := 2) (lo' := [(0, .ref am), (1, .int x1)]) (st' := [.int x1, .ref am]) [.aload_n 0, .iload_n 1] (by decide +kernel) rfl ?_
  obtain ⟨v1, hv1, h⟩ := zbind h
  refine m_cC (idx := 308) (rest := []) hW (cmwrites s0 D cB cI cJ cD am a1 a2 a3 F G tp w oc n x1 v1 hv1) oX12_writes rfl (zT_mem 1789 (by decide +kernel) rfl) (zT_mem 1791 (by decide +kernel) rfl) (zT_mem 60 (by decide +kernel) rfl) rfl rfl (Nat.le_of_ble_eq_true rfl) ⟨by decide, by decide⟩ (by decide +kernel) (fun hm hW hFr2 => ?_)
  replace hFr := hFr.tr hFr2; clear hFr2
  refine zV_eq (st2 := []) rfl rfl rfl rfl ?_
  refine zV_blk (pc' := 8) (lo' := [(0, .ref am), (1, .int x1)]) (st' := [.int 59, .ref am]) [.aload_n 0, .bipush 59] (by decide +kernel) rfl ?_
  obtain ⟨v2, hv2, h⟩ := zbind h
  refine m_cC (idx := 297) (rest := []) hW (cmoctet1 s0 D cB cI cJ cD am a1 a2 a3 v1.1 G tp w v1.2 59 v2 hv2) oX12_octet1 rfl (zT_mem 1780 (by decide +kernel) rfl) (zT_mem 1782 (by decide +kernel) rfl) (zT_mem 58 (by decide +kernel) rfl) rfl rfl (Nat.le_of_ble_eq_true rfl) ⟨by decide, by decide⟩ (by decide +kernel) (fun hm hW hFr2 => ?_)
  replace hFr := hFr.tr hFr2; clear hFr2
  refine zV_eq (st2 := []) rfl rfl rfl rfl ?_
  obtain rfl := Option.some.inj h
  exact zV_vret rfl (by decide +kernel) (hQ _ rfl hm hW hFr)

