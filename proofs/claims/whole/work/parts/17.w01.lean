def w_putFourBytes_3 (n : Nat) (x1 : Int32) (s : Int32 × (Nat → Int32) × (Nat → Int32)) : Option ((Int32 × (Nat → Int32) × (Nat → Int32)) ⊕ ((Nat → Int32) × (Nat → Int32))) := (if (s.1 : Int32) < (0 : Int32) then some (.inr (s.2.1, s.2.2)) else (if (800 : Int32) ≤ ((s.2.1 1) : Int32) then some (.inr (s.2.1, s.2.2)) else zck (zin ((s.2.1 1)) 800) (some (.inl ((s.1 + (-8)), (upd s.2.1 1 ((s.2.1 1) + 1)), (upd s.2.2 ((s.2.1 1) : Int32).toNatClampNeg (vp_nar .byte ((x1 >>> (s.1 &&& 31)) : Int32).toInt8.toInt32)))))))
set_option maxHeartbeats 4000000 in
set_option maxRecDepth 100000 in
theorem cw_putFourBytes_3 (s0 : State) (D : va_G) (X : Nat → Prop) (cB cI cJ cD : ClassId) (al l1 l2 l3 l4 l5 : Nat) (dv : Nat → Option vDes) (cs : Nat → Int32) (cv : Nat → Option vDes) (jv : Option vJoint) (bo : Option (Nat → Int32)) (hg : Option (Nat → Int64)) (lw : Option (Nat → Int64)) (sb : vSB) (n : Nat) (x1 : Int32) (s : Int32 × (Nat → Int32) × (Nat → Int32)) {x : (Int32 × (Nat → Int32) × (Nat → Int32)) ⊕ ((Nat → Int32) × (Nat → Int32))} {hi0 hi hm0 hm : zHp} {nx : Nat} {Q : Option Value → zHp → zHp → Nat → Prop} (hW : lW X cB cI cJ cD al l1 l2 l3 l4 l5 s.2.1 s.2.2 dv cs cv jv bo hg lw sb hi hm) (hXX : zX hi0 hi) (hFr : lFr X hm0 hm) (h : w_putFourBytes_3 n  x1 s = some x) (hL3 : ∀ s : Int32 × (Nat → Int32) × (Nat → Int32), x = (.inl s) → ∀ (hi' hm' : zHp) (nx' : Nat), zX hi0 hi' → lW X cB cI cJ cD al l1 l2 l3 l4 l5 s.2.1 s.2.2 dv cs cv jv bo hg lw sb hi' hm' → lFr X hm0 hm' → zV s0 D (zty cB cI cJ cD) yX11_putFourBytes cX11_putFourBytes 3 none 0 0 0 0 3 [(0, .ref al), (1, .int x1), (2, .int s.1)] [] hi' hm' nx' Q) (hQ : ∀ r : (Nat → Int32) × (Nat → Int32), x = (.inr r) → ∀ (hi' hm' : zHp) (nx' : Nat), zX hi0 hi' → lW X cB cI cJ cD al l1 l2 l3 l4 l5 r.1 r.2 dv cs cv jv bo hg lw sb hi' hm' → lFr X hm0 hm' → Q none hi' hm' nx') : zV s0 D (zty cB cI cJ cD) yX11_putFourBytes cX11_putFourBytes 3 none 0 0 0 0 3 [(0, .ref al), (1, .int x1), (2, .int s.1)] [] hi hm nx Q := by
  unfold w_putFourBytes_3 at h
  refine zV_blk (pc' := 4) (lo' := [(0, .ref al), (1, .int x1), (2, .int s.1)]) (st' := [.int s.1]) [.iload_n 2] (by decide +kernel) rfl ?_
  refine zV_if_lt (tgt := 46) (off := 42) (by decide +kernel) (by decide) (fun q => ?_) (fun q => ?_)
  · replace h := zif_pos q h
    clear q
    obtain rfl := Option.some.inj h
    exact zV_vret rfl (by decide +kernel) (hQ _ rfl _ _ _ hXX hW hFr)
  · replace h := zif_neg q h
    clear q
    refine zV_blk (pc' := 8) (lo' := [(0, .ref al), (1, .int x1), (2, .int s.1)]) (st' := [.ref al]) [.aload_n 0] (by decide +kernel) rfl ?_
    refine l_get (idx := 13) (k := 1) (v := .int (s.2.1 1)) hW (by decide) (zT_mem 157 (by decide +kernel) rfl) (fun _ _ _ _ => rfl) (by decide +kernel) ?_
    refine zV_blk (pc' := 14) (lo' := [(0, .ref al), (1, .int x1), (2, .int s.1)]) (st' := [.int 800, .int (s.2.1 1)]) [.sipush 800] (by decide +kernel) rfl ?_
    refine zV_icmp_ge (tgt := 46) (off := 32) (by decide +kernel) (by decide) (fun q => ?_) (fun q => ?_)
    · replace h := zif_pos q h
      clear q
      obtain rfl := Option.some.inj h
      exact zV_vret rfl (by decide +kernel) (hQ _ rfl _ _ _ hXX hW hFr)
    · replace h := zif_neg q h
      clear q
      refine zV_blk (pc' := 18) (lo' := [(0, .ref al), (1, .int x1), (2, .int s.1)]) (st' := [.ref al]) [.aload_n 0] (by decide +kernel) rfl ?_
      refine l_get (idx := 9) (k := 0) (v := .ref l1) hW (by decide) (zT_mem 156 (by decide +kernel) rfl) (fun _ _ _ _ => rfl) (by decide +kernel) ?_
      refine zV_blk (pc' := 22) (lo' := [(0, .ref al), (1, .int x1), (2, .int s.1)]) (st' := [.ref al, .ref l1]) [.aload_n 0] (by decide +kernel) rfl ?_
      refine l_get (idx := 13) (k := 1) (v := .int (s.2.1 1)) hW (by decide) (zT_mem 157 (by decide +kernel) rfl) (fun _ _ _ _ => rfl) (by decide +kernel) ?_
      refine zV_blk (pc' := 29) (lo' := [(0, .ref al), (1, .int x1), (2, .int s.1)]) (st' := [.int ((x1 >>> (s.1 &&& 31)) : Int32).toInt8.toInt32, .int (s.2.1 1), .ref l1]) [.iload_n 1, .iload_n 2, .ishr, .i2b] (by decide +kernel) rfl ?_
      obtain ⟨hz, h⟩ := zck_some h
      refine l_tst hW hz (by decide +kernel) (fun hm hW hFr2 => ?_)
      replace hFr := hFr.tr hFr2; clear hFr2
      refine zV_blk (pc' := 32) (lo' := [(0, .ref al), (1, .int x1), (2, .int s.1)]) (st' := [.ref al, .ref al]) [.aload_n 0, .dup] (by decide +kernel) rfl ?_
      refine l_get (idx := 13) (k := 1) (v := .int (s.2.1 1)) hW (by decide) (zT_mem 157 (by decide +kernel) rfl) (fun _ _ _ _ => rfl) (by decide +kernel) ?_
      refine zV_blk (pc' := 37) (lo' := [(0, .ref al), (1, .int x1), (2, .int s.1)]) (st' := [.int ((s.2.1 1) + 1), .ref al]) [.iconst 1, .iadd] (by decide +kernel) rfl ?_
      refine l_putI (idx := 13) (k := 1) (x := ((s.2.1 1) + 1)) hW (by decide) (zT_mem 157 (by decide +kernel) rfl) (by decide +kernel) (fun hm hW hFr2 => ?_)
      replace hFr := hFr.tr hFr2; clear hFr2
      refine zV_blk (pc' := 43) (lo' := [(2, .int (s.1 + (-8))), (0, .ref al), (1, .int x1)]) (st' := []) [.iinc 2 (-8)] (by decide +kernel) rfl ?_
      refine zV_goto (tgt := 3) (off := -40) (by decide +kernel) (by decide) ?_
      obtain rfl := Option.some.inj h
      refine zV_pick (lo2 := [(0, .ref al), (1, .int x1), (2, .int (s.1 + (-8)))]) [1, 2, 0] rfl ?_
      exact hL3 _ rfl _ _ _ hXX hW hFr
theorem cw_putFourBytes_3L (s0 : State) (D : va_G) (X : Nat → Prop) (cB cI cJ cD : ClassId) (al l1 l2 l3 l4 l5 : Nat) (dv : Nat → Option vDes) (cs : Nat → Int32) (cv : Nat → Option vDes) (jv : Option vJoint) (bo : Option (Nat → Int32)) (hg : Option (Nat → Int64)) (lw : Option (Nat → Int64)) (sb : vSB) (n : Nat) (x1 : Int32) : ∀ (k : Nat) (s : Int32 × (Nat → Int32) × (Nat → Int32)) {hi0 hi hm0 hm : zHp} {nx : Nat} {Q : Option Value → zHp → zHp → Nat → Prop} (_ : lW X cB cI cJ cD al l1 l2 l3 l4 l5 s.2.1 s.2.2 dv cs cv jv bo hg lw sb hi hm) (_ : zX hi0 hi) (_ : lFr X hm0 hm) {x : (Nat → Int32) × (Nat → Int32)} (_ : zloop (w_putFourBytes_3 n  x1) k s = some x) (hQ : ∀ r : (Nat → Int32) × (Nat → Int32), x = r → ∀ (hi' hm' : zHp) (nx' : Nat), zX hi0 hi' → lW X cB cI cJ cD al l1 l2 l3 l4 l5 r.1 r.2 dv cs cv jv bo hg lw sb hi' hm' → lFr X hm0 hm' → Q none hi' hm' nx'), zV s0 D (zty cB cI cJ cD) yX11_putFourBytes cX11_putFourBytes 3 none 0 0 0 0 3 [(0, .ref al), (1, .int x1), (2, .int s.1)] [] hi hm nx Q
  | 0, s, _, _, _, _, _, _, _, _, _, _, h, _ => by cases h
  | k + 1, s, hi0, hi, hm0, hm, nx, Q, hW, hXX, hFr, x, h, hQ => by
    obtain ⟨z, hz, h1, h2⟩ := zloop_succ h
    exact cw_putFourBytes_3 s0 D X cB cI cJ cD al l1 l2 l3 l4 l5 dv cs cv jv bo hg lw sb n x1 s hW hXX hFr hz (fun s' hs hi' hm' nx' hX hW' hFr' => cw_putFourBytes_3L s0 D X cB cI cJ cD al l1 l2 l3 l4 l5 dv cs cv jv bo hg lw sb n x1 k s' hW' hX hFr' (h1 s' hs) hQ) (fun r hr => hQ r (h2 _ hr).symm)
def w_putFourBytes (n : Nat) (A : Nat → Int32) (tp : Nat → Int32) (x1 : Int32) : Option ((Nat → Int32) × (Nat → Int32)) := (zloop (w_putFourBytes_3 n  x1) n (24, A, tp))
theorem oX11_putFourBytes : zO yX11_putFourBytes cX11_putFourBytes 3 none 1 := ⟨zT_mem 206 (by decide +kernel) rfl, zT_mem 89 (by decide +kernel) rfl, by decide +kernel, by decide +kernel, by decide +kernel⟩
set_option maxHeartbeats 4000000 in
set_option maxRecDepth 100000 in
theorem cw_putFourBytes (s0 : State) (D : va_G) (X : Nat → Prop) (cB cI cJ cD : ClassId) (al l1 l2 l3 l4 l5 : Nat) (A : Nat → Int32) (tp : Nat → Int32) (dv : Nat → Option vDes) (cs : Nat → Int32) (cv : Nat → Option vDes) (jv : Option vJoint) (bo : Option (Nat → Int32)) (hg : Option (Nat → Int64)) (lw : Option (Nat → Int64)) (sb : vSB) (n : Nat) (x1 : Int32) (x : (Nat → Int32) × (Nat → Int32)) (h : w_putFourBytes n A tp x1 = some x) {hi hm : zHp} {nx : Nat} {Q : Option Value → zHp → zHp → Nat → Prop} (hW : lW X cB cI cJ cD al l1 l2 l3 l4 l5 A tp dv cs cv jv bo hg lw sb hi hm) (hQ0 : ∀ (hi' hm' : zHp) (nx' : Nat), zX hi hi' → lW X cB cI cJ cD al l1 l2 l3 l4 l5 x.1 x.2 dv cs cv jv bo hg lw sb hi' hm' → lFr X hm hm' → Q none hi' hm' nx') : zM s0 D (zty cB cI cJ cD) yX11_putFourBytes cX11_putFourBytes 3 none 0 0 0 0 [.ref al, .int x1] hi hm nx Q := by
  have hQ : ∀ r : (Nat → Int32) × (Nat → Int32), x = r → ∀ (hi' hm' : zHp) (nx' : Nat), zX hi hi' → lW X cB cI cJ cD al l1 l2 l3 l4 l5 r.1 r.2 dv cs cv jv bo hg lw sb hi' hm' → lFr X hm hm' → Q none hi' hm' nx' := fun r hr => by subst hr; exact hQ0
  clear hQ0
  have hXX : zX hi hi := zX.rf
  have hFr : lFr X hm hm := lFr.rf
  refine zM_of (by decide +kernel) (Nat.le_of_ble_eq_true rfl) ?_
  unfold w_putFourBytes at h
  refine zV_eq (lo2 := [(0, .ref al), (1, .int x1)]) rfl rfl rfl rfl ?_
  refine zV_blk (pc' := 3) (lo' := [(2, .int 24), (0, .ref al), (1, .int x1)]) (st' := []) [.bipush 24, .istore_n 2] (by decide +kernel) rfl ?_
  refine zV_pick (lo2 := [(0, .ref al), (1, .int x1), (2, .int 24)]) [1, 2, 0] rfl ?_
  exact cw_putFourBytes_3L s0 D X cB cI cJ cD al l1 l2 l3 l4 l5 dv cs cv jv bo hg lw sb n x1  n (24, A, tp) hW  hXX hFr h hQ

def w_feed (n : Nat) (A : Nat → Int32) (tp : Nat → Int32) (x1 : Int32) (x2 : Int32) (x3 : Int32) (x4 : Int32) (x5 : Int32) : Option (Int32 × (Nat → Int32) × (Nat → Int32)) := (if (((A 1) + 20) : Int32) ≤ (800 : Int32) then (w_putFourBytes n A tp x1).bind (fun v1 => (w_putFourBytes n v1.1 v1.2 x2).bind (fun v3 => (w_putFourBytes n v3.1 v3.2 x3).bind (fun v5 => (w_putFourBytes n v5.1 v5.2 x4).bind (fun v7 => (w_putFourBytes n v7.1 v7.2 x5).bind (fun v9 => some ((v9.1 1), v9.1, v9.2)))))) else some ((-1), A, tp))
theorem oX11_feed : zO yX11_feed cX11_feed 6 (some .int) 5 := ⟨zT_mem 202 (by decide +kernel) rfl, zT_mem 89 (by decide +kernel) rfl, by decide +kernel, by decide +kernel, by decide +kernel⟩
set_option maxHeartbeats 4000000 in
set_option maxRecDepth 100000 in
theorem cw_feed (s0 : State) (D : va_G) (X : Nat → Prop) (cB cI cJ cD : ClassId) (al l1 l2 l3 l4 l5 : Nat) (A : Nat → Int32) (tp : Nat → Int32) (dv : Nat → Option vDes) (cs : Nat → Int32) (cv : Nat → Option vDes) (jv : Option vJoint) (bo : Option (Nat → Int32)) (hg : Option (Nat → Int64)) (lw : Option (Nat → Int64)) (sb : vSB) (n : Nat) (x1 : Int32) (x2 : Int32) (x3 : Int32) (x4 : Int32) (x5 : Int32) (x : Int32 × (Nat → Int32) × (Nat → Int32)) (h : w_feed n A tp x1 x2 x3 x4 x5 = some x) {hi hm : zHp} {nx : Nat} {Q : Option Value → zHp → zHp → Nat → Prop} (hW : lW X cB cI cJ cD al l1 l2 l3 l4 l5 A tp dv cs cv jv bo hg lw sb hi hm) (hQ0 : ∀ (hi' hm' : zHp) (nx' : Nat), zX hi hi' → lW X cB cI cJ cD al l1 l2 l3 l4 l5 x.2.1 x.2.2 dv cs cv jv bo hg lw sb hi' hm' → lFr X hm hm' → Q (some (.int x.1)) hi' hm' nx') : zM s0 D (zty cB cI cJ cD) yX11_feed cX11_feed 6 (some .int) 1 22 0 0 [.ref al, .int x1, .int x2, .int x3, .int x4, .int x5] hi hm nx Q := by
  have hQ : ∀ r : Int32 × (Nat → Int32) × (Nat → Int32), x = r → ∀ (hi' hm' : zHp) (nx' : Nat), zX hi hi' → lW X cB cI cJ cD al l1 l2 l3 l4 l5 r.2.1 r.2.2 dv cs cv jv bo hg lw sb hi' hm' → lFr X hm hm' → Q (some (.int r.1)) hi' hm' nx' := fun r hr => by subst hr; exact hQ0
  clear hQ0
  have hXX : zX hi hi := zX.rf
  have hFr : lFr X hm hm := lFr.rf
  refine zM_of (by decide +kernel) (Nat.le_of_ble_eq_true rfl) ?_
  unfold w_feed at h
  refine zV_eq (lo2 := [(0, .ref al), (1, .int x1), (2, .int x2), (3, .int x3), (4, .int x4), (5, .int x5)]) rfl rfl rfl rfl ?_
  refine zV_blk (pc' := 1) (lo' := [(0, .ref al), (1, .int x1), (2, .int x2), (3, .int x3), (4, .int x4), (5, .int x5)]) (st' := [.ref al]) [.aload_n 0] (by decide +kernel) rfl ?_
  refine l_get (idx := 13) (k := 1) (v := .int (A 1)) hW (by decide) (zT_mem 157 (by decide +kernel) rfl) (fun _ _ _ _ => rfl) (by decide +kernel) ?_
  refine zV_blk (pc' := 10) (lo' := [(0, .ref al), (1, .int x1), (2, .int x2), (3, .int x3), (4, .int x4), (5, .int x5)]) (st' := [.int 800, .int ((A 1) + 20)]) [.bipush 20, .iadd, .sipush 800] (by decide +kernel) rfl ?_
  refine zV_icmp_le (tgt := 15) (off := 5) (by decide +kernel) (by decide) (fun q => ?_) (fun q => ?_)
  · replace h := zif_pos q h
    clear q
    refine zV_blk (pc' := 17) (lo' := [(0, .ref al), (1, .int x1), (2, .int x2), (3, .int x3), (4, .int x4), (5, .int x5)]) (st' := [.int x1, .ref al]) [.aload_n 0, .iload_n 1] (by decide +kernel) rfl ?_
    obtain ⟨v1, hv1, h⟩ := zbind h
    refine l_call (mc := 0) (ms := 0) (idx := 63) (As := [.int x1]) (rest := []) hW (fun Q2 hQ2 => cw_putFourBytes s0 D X cB cI cJ cD al l1 l2 l3 l4 l5 A tp dv cs cv jv bo hg lw sb n x1  v1 hv1 hW  hQ2) oX11_putFourBytes rfl (zT_mem 203 (by decide +kernel) rfl) (zT_mem 205 (by decide +kernel) rfl) (zT_mem 0 (by decide +kernel) rfl) rfl rfl (Nat.le_of_ble_eq_true rfl) ⟨by decide, by decide⟩ (by decide +kernel) ?_
    intro hi2 hm2 nx2 hX hW2 hFr2
    clear hW; have hW := hW2; clear hW2
    replace hXX := hXX.tr hX; clear hX
    replace hFr := hFr.tr hFr2; clear hFr2
    refine zV_eq (st2 := []) rfl rfl rfl rfl ?_
    refine zV_blk (pc' := 22) (lo' := [(0, .ref al), (1, .int x1), (2, .int x2), (3, .int x3), (4, .int x4), (5, .int x5)]) (st' := [.int x2, .ref al]) [.aload_n 0, .iload_n 2] (by decide +kernel) rfl ?_
    obtain ⟨v3, hv3, h⟩ := zbind h
    refine l_call (mc := 0) (ms := 0) (idx := 63) (As := [.int x2]) (rest := []) hW (fun Q2 hQ2 => cw_putFourBytes s0 D X cB cI cJ cD al l1 l2 l3 l4 l5 v1.1 v1.2 dv cs cv jv bo hg lw sb n x2  v3 hv3 hW  hQ2) oX11_putFourBytes rfl (zT_mem 203 (by decide +kernel) rfl) (zT_mem 205 (by decide +kernel) rfl) (zT_mem 0 (by decide +kernel) rfl) rfl rfl (Nat.le_of_ble_eq_true rfl) ⟨by decide, by decide⟩ (by decide +kernel) ?_
    intro hi2 hm2 nx4 hX hW2 hFr2
    clear hW; have hW := hW2; clear hW2
    replace hXX := hXX.tr hX; clear hX
    replace hFr := hFr.tr hFr2; clear hFr2
    refine zV_eq (st2 := []) rfl rfl rfl rfl ?_
    refine zV_blk (pc' := 27) (lo' := [(0, .ref al), (1, .int x1), (2, .int x2), (3, .int x3), (4, .int x4), (5, .int x5)]) (st' := [.int x3, .ref al]) [.aload_n 0, .iload_n 3] (by decide +kernel) rfl ?_
    obtain ⟨v5, hv5, h⟩ := zbind h
    refine l_call (mc := 0) (ms := 0) (idx := 63) (As := [.int x3]) (rest := []) hW (fun Q2 hQ2 => cw_putFourBytes s0 D X cB cI cJ cD al l1 l2 l3 l4 l5 v3.1 v3.2 dv cs cv jv bo hg lw sb n x3  v5 hv5 hW  hQ2) oX11_putFourBytes rfl (zT_mem 203 (by decide +kernel) rfl) (zT_mem 205 (by decide +kernel) rfl) (zT_mem 0 (by decide +kernel) rfl) rfl rfl (Nat.le_of_ble_eq_true rfl) ⟨by decide, by decide⟩ (by decide +kernel) ?_
    intro hi2 hm2 nx6 hX hW2 hFr2
    clear hW; have hW := hW2; clear hW2
    replace hXX := hXX.tr hX; clear hX
    replace hFr := hFr.tr hFr2; clear hFr2
    refine zV_eq (st2 := []) rfl rfl rfl rfl ?_
    refine zV_blk (pc' := 33) (lo' := [(0, .ref al), (1, .int x1), (2, .int x2), (3, .int x3), (4, .int x4), (5, .int x5)]) (st' := [.int x4, .ref al]) [.aload_n 0, .iload 4] (by decide +kernel) rfl ?_
    obtain ⟨v7, hv7, h⟩ := zbind h
    refine l_call (mc := 0) (ms := 0) (idx := 63) (As := [.int x4]) (rest := []) hW (fun Q2 hQ2 => cw_putFourBytes s0 D X cB cI cJ cD al l1 l2 l3 l4 l5 v5.1 v5.2 dv cs cv jv bo hg lw sb n x4  v7 hv7 hW  hQ2) oX11_putFourBytes rfl (zT_mem 203 (by decide +kernel) rfl) (zT_mem 205 (by decide +kernel) rfl) (zT_mem 0 (by decide +kernel) rfl) rfl rfl (Nat.le_of_ble_eq_true rfl) ⟨by decide, by decide⟩ (by decide +kernel) ?_
    intro hi2 hm2 nx8 hX hW2 hFr2
    clear hW; have hW := hW2; clear hW2
    replace hXX := hXX.tr hX; clear hX
    replace hFr := hFr.tr hFr2; clear hFr2
    refine zV_eq (st2 := []) rfl rfl rfl rfl ?_
    refine zV_blk (pc' := 39) (lo' := [(0, .ref al), (1, .int x1), (2, .int x2), (3, .int x3), (4, .int x4), (5, .int x5)]) (st' := [.int x5, .ref al]) [.aload_n 0, .iload 5] (by decide +kernel) rfl ?_
    obtain ⟨v9, hv9, h⟩ := zbind h
    refine l_call (mc := 0) (ms := 0) (idx := 63) (As := [.int x5]) (rest := []) hW (fun Q2 hQ2 => cw_putFourBytes s0 D X cB cI cJ cD al l1 l2 l3 l4 l5 v7.1 v7.2 dv cs cv jv bo hg lw sb n x5  v9 hv9 hW  hQ2) oX11_putFourBytes rfl (zT_mem 203 (by decide +kernel) rfl) (zT_mem 205 (by decide +kernel) rfl) (zT_mem 0 (by decide +kernel) rfl) rfl rfl (Nat.le_of_ble_eq_true rfl) ⟨by decide, by decide⟩ (by decide +kernel) ?_
    intro hi2 hm2 nx10 hX hW2 hFr2
    clear hW; have hW := hW2; clear hW2
    replace hXX := hXX.tr hX; clear hX
    replace hFr := hFr.tr hFr2; clear hFr2
    refine zV_eq (st2 := []) rfl rfl rfl rfl ?_
    refine zV_blk (pc' := 43) (lo' := [(0, .ref al), (1, .int x1), (2, .int x2), (3, .int x3), (4, .int x4), (5, .int x5)]) (st' := [.ref al]) [.aload_n 0] (by decide +kernel) rfl ?_
    refine l_get (idx := 13) (k := 1) (v := .int (v9.1 1)) hW (by decide) (zT_mem 157 (by decide +kernel) rfl) (fun _ _ _ _ => rfl) (by decide +kernel) ?_
    obtain rfl := Option.some.inj h
    exact zV_iret rfl (by decide +kernel) (hQ _ rfl _ _ _ hXX hW hFr)
  · replace h := zif_neg q h
    clear q
    refine zV_blk (pc' := 14) (lo' := [(0, .ref al), (1, .int x1), (2, .int x2), (3, .int x3), (4, .int x4), (5, .int x5)]) (st' := [.int (-1)]) [.iconst (-1)] (by decide +kernel) rfl ?_
    obtain rfl := Option.some.inj h
    exact zV_iret rfl (by decide +kernel) (hQ _ rfl _ _ _ hXX hW hFr)

def w_end (A : Nat → Int32) (x1 : Int32) : Option (Bool × (Nat → Int32)) := (if (x1 : Int32) < (0 : Int32) then some (false, A) else (if (x1 : Int32) ≤ ((A 1) : Int32) then some (true, (upd A 1 x1)) else some (false, A)))
theorem oX11_end : zO yX11_end cX11_end 2 (some .boolean) 1 := ⟨zT_mem 210 (by decide +kernel) rfl, zT_mem 89 (by decide +kernel) rfl, by decide +kernel, by decide +kernel, by decide +kernel⟩
set_option maxHeartbeats 4000000 in
set_option maxRecDepth 100000 in
theorem cw_end (s0 : State) (D : va_G) (X : Nat → Prop) (cB cI cJ cD : ClassId) (al l1 l2 l3 l4 l5 : Nat) (A : Nat → Int32) (tp : Nat → Int32) (dv : Nat → Option vDes) (cs : Nat → Int32) (cv : Nat → Option vDes) (jv : Option vJoint) (bo : Option (Nat → Int32)) (hg : Option (Nat → Int64)) (lw : Option (Nat → Int64)) (sb : vSB) (x1 : Int32) (x : Bool × (Nat → Int32)) (h : w_end A x1 = some x) {hi hm : zHp} {nx : Nat} {Q : Option Value → zHp → zHp → Nat → Prop} (hW : lW X cB cI cJ cD al l1 l2 l3 l4 l5 A tp dv cs cv jv bo hg lw sb hi hm) (hQ0 : ∀ (hi' hm' : zHp) (nx' : Nat), zX hi hi' → lW X cB cI cJ cD al l1 l2 l3 l4 l5 x.2 tp dv cs cv jv bo hg lw sb hi' hm' → lFr X hm hm' → Q (some (.int (zb x.1))) hi' hm' nx') : zM s0 D (zty cB cI cJ cD) yX11_end cX11_end 2 (some .boolean) 0 0 0 0 [.ref al, .int x1] hi hm nx Q := by
  have hQ : ∀ r : Bool × (Nat → Int32), x = r → ∀ (hi' hm' : zHp) (nx' : Nat), zX hi hi' → lW X cB cI cJ cD al l1 l2 l3 l4 l5 r.2 tp dv cs cv jv bo hg lw sb hi' hm' → lFr X hm hm' → Q (some (.int (zb r.1))) hi' hm' nx' := fun r hr => by subst hr; exact hQ0
  clear hQ0
  have hXX : zX hi hi := zX.rf
  have hFr : lFr X hm hm := lFr.rf
  refine zM_of (by decide +kernel) (Nat.le_of_ble_eq_true rfl) ?_
  unfold w_end at h
  refine zV_eq (lo2 := [(0, .ref al), (1, .int x1)]) rfl rfl rfl rfl ?_
  refine zV_blk (pc' := 1) (lo' := [(0, .ref al), (1, .int x1)]) (st' := [.int x1]) [.iload_n 1] (by decide +kernel) rfl ?_
  refine zV_if_lt (tgt := 12) (off := 11) (by decide +kernel) (by decide) (fun q => ?_) (fun q => ?_)
  · replace h := zif_pos q h
    clear q
    refine zV_blk (pc' := 13) (lo' := [(0, .ref al), (1, .int x1)]) (st' := [.int 0]) [.iconst 0] (by decide +kernel) rfl ?_
    obtain rfl := Option.some.inj h
    refine zV_eq (st2 := [.int (zb false)]) rfl rfl rfl rfl ?_
    exact zV_bret rfl (by decide +kernel) (hQ _ rfl _ _ _ hXX hW hFr)
  · replace h := zif_neg q h
    clear q
    refine zV_blk (pc' := 6) (lo' := [(0, .ref al), (1, .int x1)]) (st' := [.ref al, .int x1]) [.iload_n 1, .aload_n 0] (by decide +kernel) rfl ?_
    refine l_get (idx := 13) (k := 1) (v := .int (A 1)) hW (by decide) (zT_mem 157 (by decide +kernel) rfl) (fun _ _ _ _ => rfl) (by decide +kernel) ?_
    refine zV_icmp_le (tgt := 14) (off := 5) (by decide +kernel) (by decide) (fun q => ?_) (fun q => ?_)
    · replace h := zif_pos q h
      clear q
      refine zV_blk (pc' := 16) (lo' := [(0, .ref al), (1, .int x1)]) (st' := [.int x1, .ref al]) [.aload_n 0, .iload_n 1] (by decide +kernel) rfl ?_
      refine l_putI (idx := 13) (k := 1) (x := x1) hW (by decide) (zT_mem 157 (by decide +kernel) rfl) (by decide +kernel) (fun hm hW hFr2 => ?_)
      replace hFr := hFr.tr hFr2; clear hFr2
      refine zV_blk (pc' := 20) (lo' := [(0, .ref al), (1, .int x1)]) (st' := [.int 1]) [.iconst 1] (by decide +kernel) rfl ?_
      obtain rfl := Option.some.inj h
      refine zV_eq (st2 := [.int (zb true)]) rfl rfl rfl rfl ?_
      exact zV_bret rfl (by decide +kernel) (hQ _ rfl _ _ _ hXX hW hFr)
    · replace h := zif_neg q h
      clear q
      refine zV_blk (pc' := 13) (lo' := [(0, .ref al), (1, .int x1)]) (st' := [.int 0]) [.iconst 0] (by decide +kernel) rfl ?_
      obtain rfl := Option.some.inj h
      refine zV_eq (st2 := [.int (zb false)]) rfl rfl rfl rfl ?_
      exact zV_bret rfl (by decide +kernel) (hQ _ rfl _ _ _ hXX hW hFr)

def w_fault (A : Nat → Int32) (x1 : Int32) : Option (Int32) := (if (x1 : Int32) = 0 then some (A 2) else (if (x1 : Int32) = 1 then some (A 3) else some (-1)))
theorem oX11_fault : zO yX11_fault cX11_fault 2 (some .int) 1 := ⟨zT_mem 598 (by decide +kernel) rfl, zT_mem 89 (by decide +kernel) rfl, by decide +kernel, by decide +kernel, by decide +kernel⟩
set_option maxHeartbeats 4000000 in
set_option maxRecDepth 100000 in
theorem cw_fault (s0 : State) (D : va_G) (X : Nat → Prop) (cB cI cJ cD : ClassId) (al l1 l2 l3 l4 l5 : Nat) (A : Nat → Int32) (tp : Nat → Int32) (dv : Nat → Option vDes) (cs : Nat → Int32) (cv : Nat → Option vDes) (jv : Option vJoint) (bo : Option (Nat → Int32)) (hg : Option (Nat → Int64)) (lw : Option (Nat → Int64)) (sb : vSB) (x1 : Int32) (x : Int32) (h : w_fault A x1 = some x) {hi hm : zHp} {nx : Nat} {Q : Option Value → zHp → zHp → Nat → Prop} (hW : lW X cB cI cJ cD al l1 l2 l3 l4 l5 A tp dv cs cv jv bo hg lw sb hi hm) (hQ0 : ∀ (hi' hm' : zHp) (nx' : Nat), zX hi hi' → lW X cB cI cJ cD al l1 l2 l3 l4 l5 A tp dv cs cv jv bo hg lw sb hi' hm' → lFr X hm hm' → Q (some (.int x)) hi' hm' nx') : zM s0 D (zty cB cI cJ cD) yX11_fault cX11_fault 2 (some .int) 0 0 0 0 [.ref al, .int x1] hi hm nx Q := by
  have hQ : ∀ r : Int32, x = r → ∀ (hi' hm' : zHp) (nx' : Nat), zX hi hi' → lW X cB cI cJ cD al l1 l2 l3 l4 l5 A tp dv cs cv jv bo hg lw sb hi' hm' → lFr X hm hm' → Q (some (.int r)) hi' hm' nx' := fun r hr => by subst hr; exact hQ0
  clear hQ0
  have hXX : zX hi hi := zX.rf
  have hFr : lFr X hm hm := lFr.rf
  refine zM_of (by decide +kernel) (Nat.le_of_ble_eq_true rfl) ?_
  unfold w_fault at h
  refine zV_eq (lo2 := [(0, .ref al), (1, .int x1)]) rfl rfl rfl rfl ?_
  refine zV_blk (pc' := 1) (lo' := [(0, .ref al), (1, .int x1)]) (st' := [.int x1]) [.iload_n 1] (by decide +kernel) rfl ?_
  by_cases q1 : (x1 : Int32) = 0
  · replace h := zif_pos q1 h
    refine zV_lsw (tgt := 28) (off := 27) (dflt := 37) (ps := #[(0, 27), (1, 32)]) (len := 27) (by decide +kernel) (by decide +kernel) (by rw [q1]; decide +kernel) (by decide) ?_
    refine zV_blk (pc' := 29) (lo' := [(0, .ref al), (1, .int x1)]) (st' := [.ref al]) [.aload_n 0] (by decide +kernel) rfl ?_
    refine l_get (idx := 17) (k := 2) (v := .int (A 2)) hW (by decide) (zT_mem 158 (by decide +kernel) rfl) (fun _ _ _ _ => rfl) (by decide +kernel) ?_
    obtain rfl := Option.some.inj h
    exact zV_iret rfl (by decide +kernel) (hQ _ rfl _ _ _ hXX hW hFr)
  · replace h := zif_neg q1 h
    by_cases q2 : (x1 : Int32) = 1
    · replace h := zif_pos q2 h
      refine zV_lsw (tgt := 33) (off := 32) (dflt := 37) (ps := #[(0, 27), (1, 32)]) (len := 27) (by decide +kernel) (by decide +kernel) (by rw [q2]; decide +kernel) (by decide) ?_
      refine zV_blk (pc' := 34) (lo' := [(0, .ref al), (1, .int x1)]) (st' := [.ref al]) [.aload_n 0] (by decide +kernel) rfl ?_
      refine l_get (idx := 20) (k := 3) (v := .int (A 3)) hW (by decide) (zT_mem 159 (by decide +kernel) rfl) (fun _ _ _ _ => rfl) (by decide +kernel) ?_
      obtain rfl := Option.some.inj h
      exact zV_iret rfl (by decide +kernel) (hQ _ rfl _ _ _ hXX hW hFr)
    · replace h := zif_neg q2 h
      refine zV_lsw (tgt := 38) (off := 37) (dflt := 37) (ps := #[(0, 27), (1, 32)]) (len := 27) (by decide +kernel) (by decide +kernel) (by have nq1 := zne 0 0 (by decide +kernel) q1; have nq2 := zne 1 1 (by decide +kernel) q2; exact zlsw2 nq1 nq2) (by decide) ?_
      refine zV_blk (pc' := 39) (lo' := [(0, .ref al), (1, .int x1)]) (st' := [.int (-1)]) [.iconst (-1)] (by decide +kernel) rfl ?_
      obtain rfl := Option.some.inj h
      exact zV_iret rfl (by decide +kernel) (hQ _ rfl _ _ _ hXX hW hFr)

def w_designsThere_22 (n : Nat) (dv : Nat → Option vDes) (x1 : Int32) (x2 : Int32) : Option ((Int32 × Int32) ⊕ (Int32)) := some (.inl (x1, (x2 + 1)))
set_option maxHeartbeats 4000000 in
set_option maxRecDepth 100000 in
theorem cw_designsThere_22 (s0 : State) (D : va_G) (X : Nat → Prop) (cB cI cJ cD : ClassId) (al l1 l2 l3 l4 l5 : Nat) (A : Nat → Int32) (tp : Nat → Int32) (dv : Nat → Option vDes) (cs : Nat → Int32) (cv : Nat → Option vDes) (jv : Option vJoint) (bo : Option (Nat → Int32)) (hg : Option (Nat → Int64)) (lw : Option (Nat → Int64)) (sb : vSB) (n : Nat) (x1 : Int32) (x2 : Int32) {x : (Int32 × Int32) ⊕ (Int32)} {hi0 hi hm0 hm : zHp} {nx : Nat} {Q : Option Value → zHp → zHp → Nat → Prop} (hW : lW X cB cI cJ cD al l1 l2 l3 l4 l5 A tp dv cs cv jv bo hg lw sb hi hm) (hXX : zX hi0 hi) (hFr : lFr X hm0 hm) (h : w_designsThere_22 n dv x1 x2 = some x) (hL4 : ∀ s : Int32 × Int32, x = (.inl s) → ∀ (hi' hm' : zHp) (nx' : Nat), zX hi0 hi' → lW X cB cI cJ cD al l1 l2 l3 l4 l5 A tp dv cs cv jv bo hg lw sb hi' hm' → lFr X hm0 hm' → zV s0 D (zty cB cI cJ cD) yX11_designsThere cX11_designsThere 3 (some .int) 0 0 0 0 4 [(0, .ref al), (1, .int s.1), (2, .int s.2)] [] hi' hm' nx' Q) (hQ : ∀ r : Int32, x = (.inr r) → ∀ (hi' hm' : zHp) (nx' : Nat), zX hi0 hi' → lW X cB cI cJ cD al l1 l2 l3 l4 l5 A tp dv cs cv jv bo hg lw sb hi' hm' → lFr X hm0 hm' → Q (some (.int r)) hi' hm' nx') : zV s0 D (zty cB cI cJ cD) yX11_designsThere cX11_designsThere 3 (some .int) 0 0 0 0 22 [(0, .ref al), (1, .int x1), (2, .int x2)] [] hi hm nx Q := by
  unfold w_designsThere_22 at h
  refine zV_blk (pc' := 25) (lo' := [(2, .int (x2 + 1)), (0, .ref al), (1, .int x1)]) (st' := []) [.iinc 2 1] (by decide +kernel) rfl ?_
  refine zV_goto (tgt := 4) (off := -21) (by decide +kernel) (by decide) ?_
  obtain rfl := Option.some.inj h
  refine zV_pick (lo2 := [(0, .ref al), (1, .int x1), (2, .int (x2 + 1))]) [1, 2, 0] rfl ?_
  exact hL4 _ rfl _ _ _ hXX hW hFr
def w_designsThere_4 (n : Nat) (dv : Nat → Option vDes) (s : Int32 × Int32) : Option ((Int32 × Int32) ⊕ (Int32)) := (if (6 : Int32) ≤ (s.2 : Int32) then some (.inr s.1) else zck (zin (s.2) 6) (zOm (dv (s.2 : Int32).toNatClampNeg) ((w_designsThere_22 n dv s.1 s.2 )) (fun z2 => (w_designsThere_22 n dv (s.1 + 1) s.2 ))))
set_option maxHeartbeats 4000000 in
set_option maxRecDepth 100000 in
theorem cw_designsThere_4 (s0 : State) (D : va_G) (X : Nat → Prop) (cB cI cJ cD : ClassId) (al l1 l2 l3 l4 l5 : Nat) (A : Nat → Int32) (tp : Nat → Int32) (dv : Nat → Option vDes) (cs : Nat → Int32) (cv : Nat → Option vDes) (jv : Option vJoint) (bo : Option (Nat → Int32)) (hg : Option (Nat → Int64)) (lw : Option (Nat → Int64)) (sb : vSB) (n : Nat) (s : Int32 × Int32) {x : (Int32 × Int32) ⊕ (Int32)} {hi0 hi hm0 hm : zHp} {nx : Nat} {Q : Option Value → zHp → zHp → Nat → Prop} (hW : lW X cB cI cJ cD al l1 l2 l3 l4 l5 A tp dv cs cv jv bo hg lw sb hi hm) (hXX : zX hi0 hi) (hFr : lFr X hm0 hm) (h : w_designsThere_4 n dv  s = some x) (hL4 : ∀ s : Int32 × Int32, x = (.inl s) → ∀ (hi' hm' : zHp) (nx' : Nat), zX hi0 hi' → lW X cB cI cJ cD al l1 l2 l3 l4 l5 A tp dv cs cv jv bo hg lw sb hi' hm' → lFr X hm0 hm' → zV s0 D (zty cB cI cJ cD) yX11_designsThere cX11_designsThere 3 (some .int) 0 0 0 0 4 [(0, .ref al), (1, .int s.1), (2, .int s.2)] [] hi' hm' nx' Q) (hQ : ∀ r : Int32, x = (.inr r) → ∀ (hi' hm' : zHp) (nx' : Nat), zX hi0 hi' → lW X cB cI cJ cD al l1 l2 l3 l4 l5 A tp dv cs cv jv bo hg lw sb hi' hm' → lFr X hm0 hm' → Q (some (.int r)) hi' hm' nx') : zV s0 D (zty cB cI cJ cD) yX11_designsThere cX11_designsThere 3 (some .int) 0 0 0 0 4 [(0, .ref al), (1, .int s.1), (2, .int s.2)] [] hi hm nx Q := by
  unfold w_designsThere_4 at h
  refine zV_blk (pc' := 7) (lo' := [(0, .ref al), (1, .int s.1), (2, .int s.2)]) (st' := [.int 6, .int s.2]) [.iload_n 2, .bipush 6] (by decide +kernel) rfl ?_
  refine zV_icmp_ge (tgt := 28) (off := 21) (by decide +kernel) (by decide) (fun q => ?_) (fun q => ?_)
  · replace h := zif_pos q h
    clear q
    refine zV_blk (pc' := 29) (lo' := [(0, .ref al), (1, .int s.1), (2, .int s.2)]) (st' := [.int s.1]) [.iload_n 1] (by decide +kernel) rfl ?_
    obtain rfl := Option.some.inj h
    exact zV_iret rfl (by decide +kernel) (hQ _ rfl _ _ _ hXX hW hFr)
  · replace h := zif_neg q h
    clear q
    refine zV_blk (pc' := 11) (lo' := [(0, .ref al), (1, .int s.1), (2, .int s.2)]) (st' := [.ref al]) [.aload_n 0] (by decide +kernel) rfl ?_
    refine l_get (idx := 25) (k := 4) (v := .ref l2) hW (by decide) (zT_mem 160 (by decide +kernel) rfl) (fun _ _ _ _ => rfl) (by decide +kernel) ?_
    refine zV_blk (pc' := 15) (lo' := [(0, .ref al), (1, .int s.1), (2, .int s.2)]) (st' := [.int s.2, .ref l2]) [.iload_n 2] (by decide +kernel) rfl ?_
    obtain ⟨hz, h⟩ := zck_some h
    refine l_dld hW hz (by decide +kernel) (fun hx => ?_) (fun b1 z2 hx ho3 => ?_)
    · rw [hx] at h; replace h := zOm_none h
      refine zV_ifnull (r := none) (tgt := 22) (off := 6) (by decide +kernel) (by decide) (fun _ => ?_) (fun _ q => by cases q)
      refine zV_pick (lo2 := [(0, .ref al), (1, .int s.1), (2, .int s.2)]) [0, 1, 2] rfl ?_
      exact cw_designsThere_22 s0 D X cB cI cJ cD al l1 l2 l3 l4 l5 A tp dv cs cv jv bo hg lw sb n s.1 s.2   hW  hXX hFr h hL4 hQ
    · rw [hx] at h; replace h := zOm_some h
      refine zV_ifnull (r := some b1) (tgt := 22) (off := 6) (by decide +kernel) (by decide) (fun q => by cases q) (fun _ _ => ?_)
      refine zV_blk (pc' := 22) (lo' := [(1, .int (s.1 + 1)), (0, .ref al), (2, .int s.2)]) (st' := []) [.iinc 1 1] (by decide +kernel) rfl ?_
      refine zV_pick (lo2 := [(0, .ref al), (1, .int (s.1 + 1)), (2, .int s.2)]) [1, 0, 2] rfl ?_
      exact cw_designsThere_22 s0 D X cB cI cJ cD al l1 l2 l3 l4 l5 A tp dv cs cv jv bo hg lw sb n (s.1 + 1) s.2   hW  hXX hFr h hL4 hQ
theorem cw_designsThere_4L (s0 : State) (D : va_G) (X : Nat → Prop) (cB cI cJ cD : ClassId) (al l1 l2 l3 l4 l5 : Nat) (A : Nat → Int32) (tp : Nat → Int32) (dv : Nat → Option vDes) (cs : Nat → Int32) (cv : Nat → Option vDes) (jv : Option vJoint) (bo : Option (Nat → Int32)) (hg : Option (Nat → Int64)) (lw : Option (Nat → Int64)) (sb : vSB) (n : Nat) : ∀ (k : Nat) (s : Int32 × Int32) {hi0 hi hm0 hm : zHp} {nx : Nat} {Q : Option Value → zHp → zHp → Nat → Prop} (_ : lW X cB cI cJ cD al l1 l2 l3 l4 l5 A tp dv cs cv jv bo hg lw sb hi hm) (_ : zX hi0 hi) (_ : lFr X hm0 hm) {x : Int32} (_ : zloop (w_designsThere_4 n dv ) k s = some x) (hQ : ∀ r : Int32, x = r → ∀ (hi' hm' : zHp) (nx' : Nat), zX hi0 hi' → lW X cB cI cJ cD al l1 l2 l3 l4 l5 A tp dv cs cv jv bo hg lw sb hi' hm' → lFr X hm0 hm' → Q (some (.int r)) hi' hm' nx'), zV s0 D (zty cB cI cJ cD) yX11_designsThere cX11_designsThere 3 (some .int) 0 0 0 0 4 [(0, .ref al), (1, .int s.1), (2, .int s.2)] [] hi hm nx Q
  | 0, s, _, _, _, _, _, _, _, _, _, _, h, _ => by cases h
  | k + 1, s, hi0, hi, hm0, hm, nx, Q, hW, hXX, hFr, x, h, hQ => by
    obtain ⟨z, hz, h1, h2⟩ := zloop_succ h
    exact cw_designsThere_4 s0 D X cB cI cJ cD al l1 l2 l3 l4 l5 A tp dv cs cv jv bo hg lw sb n  s hW hXX hFr hz (fun s' hs hi' hm' nx' hX hW' hFr' => cw_designsThere_4L s0 D X cB cI cJ cD al l1 l2 l3 l4 l5 A tp dv cs cv jv bo hg lw sb n  k s' hW' hX hFr' (h1 s' hs) hQ) (fun r hr => hQ r (h2 _ hr).symm)
def w_designsThere (n : Nat) (dv : Nat → Option vDes) : Option (Int32) := (zloop (w_designsThere_4 n dv ) n (0, 0))
theorem oX11_designsThere : zO yX11_designsThere cX11_designsThere 3 (some .int) 0 := ⟨zT_mem 663 (by decide +kernel) rfl, zT_mem 89 (by decide +kernel) rfl, by decide +kernel, by decide +kernel, by decide +kernel⟩
set_option maxHeartbeats 4000000 in
set_option maxRecDepth 100000 in
theorem cw_designsThere (s0 : State) (D : va_G) (X : Nat → Prop) (cB cI cJ cD : ClassId) (al l1 l2 l3 l4 l5 : Nat) (A : Nat → Int32) (tp : Nat → Int32) (dv : Nat → Option vDes) (cs : Nat → Int32) (cv : Nat → Option vDes) (jv : Option vJoint) (bo : Option (Nat → Int32)) (hg : Option (Nat → Int64)) (lw : Option (Nat → Int64)) (sb : vSB) (n : Nat) (x : Int32) (h : w_designsThere n dv  = some x) {hi hm : zHp} {nx : Nat} {Q : Option Value → zHp → zHp → Nat → Prop} (hW : lW X cB cI cJ cD al l1 l2 l3 l4 l5 A tp dv cs cv jv bo hg lw sb hi hm) (hQ0 : ∀ (hi' hm' : zHp) (nx' : Nat), zX hi hi' → lW X cB cI cJ cD al l1 l2 l3 l4 l5 A tp dv cs cv jv bo hg lw sb hi' hm' → lFr X hm hm' → Q (some (.int x)) hi' hm' nx') : zM s0 D (zty cB cI cJ cD) yX11_designsThere cX11_designsThere 3 (some .int) 0 0 0 0 [.ref al] hi hm nx Q := by
  have hQ : ∀ r : Int32, x = r → ∀ (hi' hm' : zHp) (nx' : Nat), zX hi hi' → lW X cB cI cJ cD al l1 l2 l3 l4 l5 A tp dv cs cv jv bo hg lw sb hi' hm' → lFr X hm hm' → Q (some (.int r)) hi' hm' nx' := fun r hr => by subst hr; exact hQ0
  clear hQ0
  have hXX : zX hi hi := zX.rf
  have hFr : lFr X hm hm := lFr.rf
  refine zM_of (by decide +kernel) (Nat.le_of_ble_eq_true rfl) ?_
  unfold w_designsThere at h
  refine zV_eq (lo2 := [(0, .ref al)]) rfl rfl rfl rfl ?_
  refine zV_blk (pc' := 4) (lo' := [(2, .int 0), (1, .int 0), (0, .ref al)]) (st' := []) [.iconst 0, .istore_n 1, .iconst 0, .istore_n 2] (by decide +kernel) rfl ?_
  refine zV_pick (lo2 := [(0, .ref al), (1, .int 0), (2, .int 0)]) [2, 1, 0] rfl ?_
  exact cw_designsThere_4L s0 D X cB cI cJ cD al l1 l2 l3 l4 l5 A tp dv cs cv jv bo hg lw sb n   n (0, 0) hW  hXX hFr h hQ

def w_count (n : Nat) (A : Nat → Int32) (dv : Nat → Option vDes) (x1 : Int32) : Option (Int32) := (if (x1 : Int32) = 0 then (w_designsThere n dv).bind (fun v2 => some v2) else (if (x1 : Int32) = 1 then some (A 8) else some (-1)))
theorem oX11_count : zO yX11_count cX11_count 2 (some .int) 1 := ⟨zT_mem 659 (by decide +kernel) rfl, zT_mem 89 (by decide +kernel) rfl, by decide +kernel, by decide +kernel, by decide +kernel⟩
set_option maxHeartbeats 4000000 in
set_option maxRecDepth 100000 in
theorem cw_count (s0 : State) (D : va_G) (X : Nat → Prop) (cB cI cJ cD : ClassId) (al l1 l2 l3 l4 l5 : Nat) (A : Nat → Int32) (tp : Nat → Int32) (dv : Nat → Option vDes) (cs : Nat → Int32) (cv : Nat → Option vDes) (jv : Option vJoint) (bo : Option (Nat → Int32)) (hg : Option (Nat → Int64)) (lw : Option (Nat → Int64)) (sb : vSB) (n : Nat) (x1 : Int32) (x : Int32) (h : w_count n A dv x1 = some x) {hi hm : zHp} {nx : Nat} {Q : Option Value → zHp → zHp → Nat → Prop} (hW : lW X cB cI cJ cD al l1 l2 l3 l4 l5 A tp dv cs cv jv bo hg lw sb hi hm) (hQ0 : ∀ (hi' hm' : zHp) (nx' : Nat), zX hi hi' → lW X cB cI cJ cD al l1 l2 l3 l4 l5 A tp dv cs cv jv bo hg lw sb hi' hm' → lFr X hm hm' → Q (some (.int x)) hi' hm' nx') : zM s0 D (zty cB cI cJ cD) yX11_count cX11_count 2 (some .int) 1 22 0 0 [.ref al, .int x1] hi hm nx Q := by
  have hQ : ∀ r : Int32, x = r → ∀ (hi' hm' : zHp) (nx' : Nat), zX hi hi' → lW X cB cI cJ cD al l1 l2 l3 l4 l5 A tp dv cs cv jv bo hg lw sb hi' hm' → lFr X hm hm' → Q (some (.int r)) hi' hm' nx' := fun r hr => by subst hr; exact hQ0
  clear hQ0
  have hXX : zX hi hi := zX.rf
  have hFr : lFr X hm hm := lFr.rf
  refine zM_of (by decide +kernel) (Nat.le_of_ble_eq_true rfl) ?_
  unfold w_count at h
  refine zV_eq (lo2 := [(0, .ref al), (1, .int x1)]) rfl rfl rfl rfl ?_
  refine zV_blk (pc' := 1) (lo' := [(0, .ref al), (1, .int x1)]) (st' := [.int x1]) [.iload_n 1] (by decide +kernel) rfl ?_
  by_cases q1 : (x1 : Int32) = 0
  · replace h := zif_pos q1 h
    refine zV_lsw (tgt := 28) (off := 27) (dflt := 37) (ps := #[(0, 27), (1, 32)]) (len := 27) (by decide +kernel) (by decide +kernel) (by rw [q1]; decide +kernel) (by decide) ?_
    refine zV_blk (pc' := 29) (lo' := [(0, .ref al), (1, .int x1)]) (st' := [.ref al]) [.aload_n 0] (by decide +kernel) rfl ?_
    obtain ⟨v2, hv2, h⟩ := zbind h
    refine l_call (mc := 0) (ms := 0) (idx := 154) (As := []) (rest := []) hW (fun Q2 hQ2 => cw_designsThere s0 D X cB cI cJ cD al l1 l2 l3 l4 l5 A tp dv cs cv jv bo hg lw sb n   v2 hv2 hW  hQ2) oX11_designsThere rfl (zT_mem 660 (by decide +kernel) rfl) (zT_mem 662 (by decide +kernel) rfl) (zT_mem 12 (by decide +kernel) rfl) rfl rfl (Nat.le_of_ble_eq_true rfl) ⟨by decide, by decide⟩ (by decide +kernel) ?_
    intro hi2 hm2 nx3 hX hW2 hFr2
    clear hW; have hW := hW2; clear hW2
    replace hXX := hXX.tr hX; clear hX
    replace hFr := hFr.tr hFr2; clear hFr2
    refine zV_eq (st2 := [.int v2]) rfl rfl rfl rfl ?_
    obtain rfl := Option.some.inj h
    exact zV_iret rfl (by decide +kernel) (hQ _ rfl _ _ _ hXX hW hFr)
  · replace h := zif_neg q1 h
    by_cases q4 : (x1 : Int32) = 1
    · replace h := zif_pos q4 h
      refine zV_lsw (tgt := 33) (off := 32) (dflt := 37) (ps := #[(0, 27), (1, 32)]) (len := 27) (by decide +kernel) (by decide +kernel) (by rw [q4]; decide +kernel) (by decide) ?_
      refine zV_blk (pc' := 34) (lo' := [(0, .ref al), (1, .int x1)]) (st' := [.ref al]) [.aload_n 0] (by decide +kernel) rfl ?_
      refine l_get (idx := 39) (k := 8) (v := .int (A 8)) hW (by decide) (zT_mem 164 (by decide +kernel) rfl) (fun _ _ _ _ => rfl) (by decide +kernel) ?_
      obtain rfl := Option.some.inj h
      exact zV_iret rfl (by decide +kernel) (hQ _ rfl _ _ _ hXX hW hFr)
    · replace h := zif_neg q4 h
      refine zV_lsw (tgt := 38) (off := 37) (dflt := 37) (ps := #[(0, 27), (1, 32)]) (len := 27) (by decide +kernel) (by decide +kernel) (by have nq1 := zne 0 0 (by decide +kernel) q1; have nq4 := zne 1 1 (by decide +kernel) q4; exact zlsw2 nq1 nq4) (by decide) ?_
      refine zV_blk (pc' := 39) (lo' := [(0, .ref al), (1, .int x1)]) (st' := [.int (-1)]) [.iconst (-1)] (by decide +kernel) rfl ?_
      obtain rfl := Option.some.inj h
      exact zV_iret rfl (by decide +kernel) (hQ _ rfl _ _ _ hXX hW hFr)

def w_change (A : Nat → Int32) (dv : Nat → Option vDes) (cs : Nat → Int32) (cv : Nat → Option vDes) (x1 : Int32) (x2 : Option vDes) : Option ((Nat → Int32) × (Nat → Option vDes) × (Nat → Int32) × (Nat → Option vDes)) := zOm x2 (zck (zin ((A 7)) 12) (zck (zin (x1) 6) (zOm (dv (x1 : Int32).toNatClampNeg) (zck (zin ((A 7)) 12) (zck (decide (¬ (12 : Int32) = 0)) ((j_minI (((upd A 7 (((A 7) + 1) - ((A 7) + 1) / 12 * 12)) 8) + 1) 12).bind (fun v4 => zck (zin (x1) 6) (some ((upd (upd A 7 (((A 7) + 1) - ((A 7) + 1) / 12 * 12)) 8 v4), (va_up dv (x1 : Int32).toNatClampNeg none), (upd cs ((A 7) : Int32).toNatClampNeg x1), (va_up cv ((A 7) : Int32).toNatClampNeg none))))))) (fun z2 => zck (zin ((A 7)) 12) (zck (decide (¬ (12 : Int32) = 0)) ((j_minI (((upd A 7 (((A 7) + 1) - ((A 7) + 1) / 12 * 12)) 8) + 1) 12).bind (fun v5 => zck (zin (x1) 6) (some ((upd (upd A 7 (((A 7) + 1) - ((A 7) + 1) / 12 * 12)) 8 v5), (va_up dv (x1 : Int32).toNatClampNeg none), (upd cs ((A 7) : Int32).toNatClampNeg x1), (va_up cv ((A 7) : Int32).toNatClampNeg (some z2))))))))))) (fun z2 => zck (zin ((A 7)) 12) (zck (zin (x1) 6) (zOm (dv (x1 : Int32).toNatClampNeg) (zck (zin ((A 7)) 12) (zck (decide (¬ (12 : Int32) = 0)) ((j_minI (((upd A 7 (((A 7) + 1) - ((A 7) + 1) / 12 * 12)) 8) + 1) 12).bind (fun v9 => zck (zin (x1) 6) (some ((upd (upd A 7 (((A 7) + 1) - ((A 7) + 1) / 12 * 12)) 8 v9), (va_up dv (x1 : Int32).toNatClampNeg (some z2)), (upd cs ((A 7) : Int32).toNatClampNeg x1), (va_up cv ((A 7) : Int32).toNatClampNeg none))))))) (fun z7 => zck (zin ((A 7)) 12) (zck (decide (¬ (12 : Int32) = 0)) ((j_minI (((upd A 7 (((A 7) + 1) - ((A 7) + 1) / 12 * 12)) 8) + 1) 12).bind (fun v10 => zck (zin (x1) 6) (some ((upd (upd A 7 (((A 7) + 1) - ((A 7) + 1) / 12 * 12)) 8 v10), (va_up dv (x1 : Int32).toNatClampNeg (some z2)), (upd cs ((A 7) : Int32).toNatClampNeg x1), (va_up cv ((A 7) : Int32).toNatClampNeg (some z7)))))))))))
theorem oX11_change : zO yX11_change cX11_change 3 none 2 := ⟨zT_mem 579 (by decide +kernel) rfl, zT_mem 89 (by decide +kernel) rfl, by decide +kernel, by decide +kernel, by decide +kernel⟩
set_option maxHeartbeats 4000000 in
set_option maxRecDepth 100000 in
theorem cw_change (s0 : State) (D : va_G) (X : Nat → Prop) (cB cI cJ cD : ClassId) (al l1 l2 l3 l4 l5 : Nat) (A : Nat → Int32) (tp : Nat → Int32) (dv : Nat → Option vDes) (cs : Nat → Int32) (cv : Nat → Option vDes) (jv : Option vJoint) (bo : Option (Nat → Int32)) (hg : Option (Nat → Int64)) (lw : Option (Nat → Int64)) (sb : vSB) (x1 : Int32) (x2 : Option vDes) (r2 : Option Nat) (x : (Nat → Int32) × (Nat → Option vDes) × (Nat → Int32) × (Nat → Option vDes)) (h : w_change A dv cs cv x1 x2 = some x) {hi hm : zHp} {nx : Nat} {Q : Option Value → zHp → zHp → Nat → Prop} (hW : lW X cB cI cJ cD al l1 l2 l3 l4 l5 A tp dv cs cv jv bo hg lw sb hi hm) (hr2 : zRf (iDes cI hi) r2 x2) (hQ0 : ∀ (hi' hm' : zHp) (nx' : Nat), zX hi hi' → lW X cB cI cJ cD al l1 l2 l3 l4 l5 x.1 tp x.2.1 x.2.2.1 x.2.2.2 jv bo hg lw sb hi' hm' → lFr X hm hm' → Q none hi' hm' nx') : zM s0 D (zty cB cI cJ cD) yX11_change cX11_change 3 none 1 21 0 0 [.ref al, .int x1, va_rf r2] hi hm nx Q := by
  have hQ : ∀ r : (Nat → Int32) × (Nat → Option vDes) × (Nat → Int32) × (Nat → Option vDes), x = r → ∀ (hi' hm' : zHp) (nx' : Nat), zX hi hi' → lW X cB cI cJ cD al l1 l2 l3 l4 l5 r.1 tp r.2.1 r.2.2.1 r.2.2.2 jv bo hg lw sb hi' hm' → lFr X hm hm' → Q none hi' hm' nx' := fun r hr => by subst hr; exact hQ0
  clear hQ0
  have hXX : zX hi hi := zX.rf
  have hFr : lFr X hm hm := lFr.rf
  unfold w_change at h
  rcases hr2 with ⟨rfl, rfl⟩ | ⟨a2, z2, rfl, rfl, ho2⟩
  · replace h := zOm_none h
    refine zM_of (by decide +kernel) (Nat.le_of_ble_eq_true rfl) ?_
    refine zV_eq (lo2 := [(0, .ref al), (1, .int x1), (2, .null)]) rfl rfl rfl rfl ?_
    refine zV_blk (pc' := 1) (lo' := [(0, .ref al), (1, .int x1), (2, .null)]) (st' := [.ref al]) [.aload_n 0] (by decide +kernel) rfl ?_
    refine l_get (idx := 29) (k := 5) (v := .ref l3) hW (by decide) (zT_mem 161 (by decide +kernel) rfl) (fun _ _ _ _ => rfl) (by decide +kernel) ?_
    refine zV_blk (pc' := 5) (lo' := [(0, .ref al), (1, .int x1), (2, .null)]) (st' := [.ref al, .ref l3]) [.aload_n 0] (by decide +kernel) rfl ?_
    refine l_get (idx := 36) (k := 7) (v := .int (A 7)) hW (by decide) (zT_mem 163 (by decide +kernel) rfl) (fun _ _ _ _ => rfl) (by decide +kernel) ?_
    refine zV_blk (pc' := 9) (lo' := [(0, .ref al), (1, .int x1), (2, .null)]) (st' := [.int x1, .int (A 7), .ref l3]) [.iload_n 1] (by decide +kernel) rfl ?_
    obtain ⟨hz, h⟩ := zck_some h
    refine l_cst hW hz (by decide +kernel) (fun hm hW hFr2 => ?_)
    replace hFr := hFr.tr hFr2; clear hFr2
    refine zV_blk (pc' := 11) (lo' := [(0, .ref al), (1, .int x1), (2, .null)]) (st' := [.ref al]) [.aload_n 0] (by decide +kernel) rfl ?_
    refine l_get (idx := 33) (k := 6) (v := .ref l4) hW (by decide) (zT_mem 162 (by decide +kernel) rfl) (fun _ _ _ _ => rfl) (by decide +kernel) ?_
    refine zV_blk (pc' := 15) (lo' := [(0, .ref al), (1, .int x1), (2, .null)]) (st' := [.ref al, .ref l4]) [.aload_n 0] (by decide +kernel) rfl ?_
    refine l_get (idx := 36) (k := 7) (v := .int (A 7)) hW (by decide) (zT_mem 163 (by decide +kernel) rfl) (fun _ _ _ _ => rfl) (by decide +kernel) ?_
    refine zV_blk (pc' := 19) (lo' := [(0, .ref al), (1, .int x1), (2, .null)]) (st' := [.ref al, .int (A 7), .ref l4]) [.aload_n 0] (by decide +kernel) rfl ?_
    refine l_get (idx := 25) (k := 4) (v := .ref l2) hW (by decide) (zT_mem 160 (by decide +kernel) rfl) (fun _ _ _ _ => rfl) (by decide +kernel) ?_
    refine zV_blk (pc' := 23) (lo' := [(0, .ref al), (1, .int x1), (2, .null)]) (st' := [.int x1, .ref l2, .int (A 7), .ref l4]) [.iload_n 1] (by decide +kernel) rfl ?_
    obtain ⟨hz, h⟩ := zck_some h
    refine l_dld hW hz (by decide +kernel) (fun hx => ?_) (fun b1 z2 hx ho3 => ?_)
    · rw [hx] at h; replace h := zOm_none h
      obtain ⟨hz, h⟩ := zck_some h
      refine l_vstN hW hz (by decide +kernel) (fun hm hW hFr2 => ?_)
      replace hFr := hFr.tr hFr2; clear hFr2
      refine zV_blk (pc' := 27) (lo' := [(0, .ref al), (1, .int x1), (2, .null)]) (st' := [.ref al, .ref al]) [.aload_n 0, .aload_n 0] (by decide +kernel) rfl ?_
      refine l_get (idx := 36) (k := 7) (v := .int (A 7)) hW (by decide) (zT_mem 163 (by decide +kernel) rfl) (fun _ _ _ _ => rfl) (by decide +kernel) ?_
      refine zV_blk (pc' := 34) (lo' := [(0, .ref al), (1, .int x1), (2, .null)]) (st' := [.int 12, .int ((A 7) + 1), .ref al]) [.iconst 1, .iadd, .bipush 12] (by decide +kernel) rfl ?_
      obtain ⟨hz, h⟩ := zck_some h
      refine zV_irem (by decide +kernel) (of_decide_eq_true hz) ?_
      refine l_putI (idx := 36) (k := 7) (x := (((A 7) + 1) - ((A 7) + 1) / 12 * 12)) hW (by decide) (zT_mem 163 (by decide +kernel) rfl) (by decide +kernel) (fun hm hW hFr2 => ?_)
      replace hFr := hFr.tr hFr2; clear hFr2
      refine zV_blk (pc' := 40) (lo' := [(0, .ref al), (1, .int x1), (2, .null)]) (st' := [.ref al, .ref al]) [.aload_n 0, .aload_n 0] (by decide +kernel) rfl ?_
      refine l_get (idx := 39) (k := 8) (v := .int ((upd A 7 (((A 7) + 1) - ((A 7) + 1) / 12 * 12)) 8)) hW (by decide) (zT_mem 164 (by decide +kernel) rfl) (fun _ _ _ _ => rfl) (by decide +kernel) ?_
      refine zV_blk (pc' := 47) (lo' := [(0, .ref al), (1, .int x1), (2, .null)]) (st' := [.int 12, .int (((upd A 7 (((A 7) + 1) - ((A 7) + 1) / 12 * 12)) 8) + 1), .ref al]) [.iconst 1, .iadd, .bipush 12] (by decide +kernel) rfl ?_
      obtain ⟨v4, hv4, h⟩ := zbind h
      refine zV_roS (idx := 201) (rest := [.ref al]) (fun Q2 hQ2 => cj_minI s0 D cB cI cJ cD (((upd A 7 (((A 7) + 1) - ((A 7) + 1) / 12 * 12)) 8) + 1) 12  v4 hv4  hQ2) oJ9_min_7cf53 (zT_mem 580 (by decide +kernel) rfl) (zT_mem 225 (by decide +kernel) rfl) rfl rfl (Nat.le_of_ble_eq_true rfl) ⟨by decide, by decide⟩ (by decide +kernel) ?_
      refine zV_eq (st2 := [.int v4, .ref al]) rfl rfl rfl rfl ?_
      refine l_putI (idx := 39) (k := 8) (x := v4) hW (by decide) (zT_mem 164 (by decide +kernel) rfl) (by decide +kernel) (fun hm hW hFr2 => ?_)
      replace hFr := hFr.tr hFr2; clear hFr2
      refine zV_blk (pc' := 54) (lo' := [(0, .ref al), (1, .int x1), (2, .null)]) (st' := [.ref al]) [.aload_n 0] (by decide +kernel) rfl ?_
      refine l_get (idx := 25) (k := 4) (v := .ref l2) hW (by decide) (zT_mem 160 (by decide +kernel) rfl) (fun _ _ _ _ => rfl) (by decide +kernel) ?_
      refine zV_blk (pc' := 59) (lo' := [(0, .ref al), (1, .int x1), (2, .null)]) (st' := [.null, .int x1, .ref l2]) [.iload_n 1, .aload_n 2] (by decide +kernel) rfl ?_
      obtain ⟨hz, h⟩ := zck_some h
      refine l_dstN hW hz (by decide +kernel) (fun hm hW hFr2 => ?_)
      replace hFr := hFr.tr hFr2; clear hFr2
      obtain rfl := Option.some.inj h
      exact zV_vret rfl (by decide +kernel) (hQ _ rfl _ _ _ hXX hW hFr)
    · rw [hx] at h; replace h := zOm_some h
      obtain ⟨hz, h⟩ := zck_some h
      refine l_vst hW ho3 hz (by decide +kernel) (fun hm hW hFr2 => ?_)
      replace hFr := hFr.tr hFr2; clear hFr2
      refine zV_blk (pc' := 27) (lo' := [(0, .ref al), (1, .int x1), (2, .null)]) (st' := [.ref al, .ref al]) [.aload_n 0, .aload_n 0] (by decide +kernel) rfl ?_
      refine l_get (idx := 36) (k := 7) (v := .int (A 7)) hW (by decide) (zT_mem 163 (by decide +kernel) rfl) (fun _ _ _ _ => rfl) (by decide +kernel) ?_
      refine zV_blk (pc' := 34) (lo' := [(0, .ref al), (1, .int x1), (2, .null)]) (st' := [.int 12, .int ((A 7) + 1), .ref al]) [.iconst 1, .iadd, .bipush 12] (by decide +kernel) rfl ?_
      obtain ⟨hz, h⟩ := zck_some h
      refine zV_irem (by decide +kernel) (of_decide_eq_true hz) ?_
      refine l_putI (idx := 36) (k := 7) (x := (((A 7) + 1) - ((A 7) + 1) / 12 * 12)) hW (by decide) (zT_mem 163 (by decide +kernel) rfl) (by decide +kernel) (fun hm hW hFr2 => ?_)
      replace hFr := hFr.tr hFr2; clear hFr2
      refine zV_blk (pc' := 40) (lo' := [(0, .ref al), (1, .int x1), (2, .null)]) (st' := [.ref al, .ref al]) [.aload_n 0, .aload_n 0] (by decide +kernel) rfl ?_
      refine l_get (idx := 39) (k := 8) (v := .int ((upd A 7 (((A 7) + 1) - ((A 7) + 1) / 12 * 12)) 8)) hW (by decide) (zT_mem 164 (by decide +kernel) rfl) (fun _ _ _ _ => rfl) (by decide +kernel) ?_
      refine zV_blk (pc' := 47) (lo' := [(0, .ref al), (1, .int x1), (2, .null)]) (st' := [.int 12, .int (((upd A 7 (((A 7) + 1) - ((A 7) + 1) / 12 * 12)) 8) + 1), .ref al]) [.iconst 1, .iadd, .bipush 12] (by decide +kernel) rfl ?_
      obtain ⟨v5, hv5, h⟩ := zbind h
      refine zV_roS (idx := 201) (rest := [.ref al]) (fun Q2 hQ2 => cj_minI s0 D cB cI cJ cD (((upd A 7 (((A 7) + 1) - ((A 7) + 1) / 12 * 12)) 8) + 1) 12  v5 hv5  hQ2) oJ9_min_7cf53 (zT_mem 580 (by decide +kernel) rfl) (zT_mem 225 (by decide +kernel) rfl) rfl rfl (Nat.le_of_ble_eq_true rfl) ⟨by decide, by decide⟩ (by decide +kernel) ?_
      refine zV_eq (st2 := [.int v5, .ref al]) rfl rfl rfl rfl ?_
      refine l_putI (idx := 39) (k := 8) (x := v5) hW (by decide) (zT_mem 164 (by decide +kernel) rfl) (by decide +kernel) (fun hm hW hFr2 => ?_)
      replace hFr := hFr.tr hFr2; clear hFr2
      refine zV_blk (pc' := 54) (lo' := [(0, .ref al), (1, .int x1), (2, .null)]) (st' := [.ref al]) [.aload_n 0] (by decide +kernel) rfl ?_
      refine l_get (idx := 25) (k := 4) (v := .ref l2) hW (by decide) (zT_mem 160 (by decide +kernel) rfl) (fun _ _ _ _ => rfl) (by decide +kernel) ?_
      refine zV_blk (pc' := 59) (lo' := [(0, .ref al), (1, .int x1), (2, .null)]) (st' := [.null, .int x1, .ref l2]) [.iload_n 1, .aload_n 2] (by decide +kernel) rfl ?_
      obtain ⟨hz, h⟩ := zck_some h
      refine l_dstN hW hz (by decide +kernel) (fun hm hW hFr2 => ?_)
      replace hFr := hFr.tr hFr2; clear hFr2
      obtain rfl := Option.some.inj h
      exact zV_vret rfl (by decide +kernel) (hQ _ rfl _ _ _ hXX hW hFr)
  · replace h := zOm_some h
    refine zM_of (by decide +kernel) (Nat.le_of_ble_eq_true rfl) ?_
    refine zV_eq (lo2 := [(0, .ref al), (1, .int x1), (2, .ref a2)]) rfl rfl rfl rfl ?_
    refine zV_blk (pc' := 1) (lo' := [(0, .ref al), (1, .int x1), (2, .ref a2)]) (st' := [.ref al]) [.aload_n 0] (by decide +kernel) rfl ?_
    refine l_get (idx := 29) (k := 5) (v := .ref l3) hW (by decide) (zT_mem 161 (by decide +kernel) rfl) (fun _ _ _ _ => rfl) (by decide +kernel) ?_
    refine zV_blk (pc' := 5) (lo' := [(0, .ref al), (1, .int x1), (2, .ref a2)]) (st' := [.ref al, .ref l3]) [.aload_n 0] (by decide +kernel) rfl ?_
    refine l_get (idx := 36) (k := 7) (v := .int (A 7)) hW (by decide) (zT_mem 163 (by decide +kernel) rfl) (fun _ _ _ _ => rfl) (by decide +kernel) ?_
    refine zV_blk (pc' := 9) (lo' := [(0, .ref al), (1, .int x1), (2, .ref a2)]) (st' := [.int x1, .int (A 7), .ref l3]) [.iload_n 1] (by decide +kernel) rfl ?_
    obtain ⟨hz, h⟩ := zck_some h
    refine l_cst hW hz (by decide +kernel) (fun hm hW hFr2 => ?_)
    replace hFr := hFr.tr hFr2; clear hFr2
    refine zV_blk (pc' := 11) (lo' := [(0, .ref al), (1, .int x1), (2, .ref a2)]) (st' := [.ref al]) [.aload_n 0] (by decide +kernel) rfl ?_
    refine l_get (idx := 33) (k := 6) (v := .ref l4) hW (by decide) (zT_mem 162 (by decide +kernel) rfl) (fun _ _ _ _ => rfl) (by decide +kernel) ?_
    refine zV_blk (pc' := 15) (lo' := [(0, .ref al), (1, .int x1), (2, .ref a2)]) (st' := [.ref al, .ref l4]) [.aload_n 0] (by decide +kernel) rfl ?_
    refine l_get (idx := 36) (k := 7) (v := .int (A 7)) hW (by decide) (zT_mem 163 (by decide +kernel) rfl) (fun _ _ _ _ => rfl) (by decide +kernel) ?_
    refine zV_blk (pc' := 19) (lo' := [(0, .ref al), (1, .int x1), (2, .ref a2)]) (st' := [.ref al, .int (A 7), .ref l4]) [.aload_n 0] (by decide +kernel) rfl ?_
    refine l_get (idx := 25) (k := 4) (v := .ref l2) hW (by decide) (zT_mem 160 (by decide +kernel) rfl) (fun _ _ _ _ => rfl) (by decide +kernel) ?_
    refine zV_blk (pc' := 23) (lo' := [(0, .ref al), (1, .int x1), (2, .ref a2)]) (st' := [.int x1, .ref l2, .int (A 7), .ref l4]) [.iload_n 1] (by decide +kernel) rfl ?_
    obtain ⟨hz, h⟩ := zck_some h
    refine l_dld hW hz (by decide +kernel) (fun hx => ?_) (fun b6 z7 hx ho8 => ?_)
    · rw [hx] at h; replace h := zOm_none h
      obtain ⟨hz, h⟩ := zck_some h
      refine l_vstN hW hz (by decide +kernel) (fun hm hW hFr2 => ?_)
      replace hFr := hFr.tr hFr2; clear hFr2
      refine zV_blk (pc' := 27) (lo' := [(0, .ref al), (1, .int x1), (2, .ref a2)]) (st' := [.ref al, .ref al]) [.aload_n 0, .aload_n 0] (by decide +kernel) rfl ?_
      refine l_get (idx := 36) (k := 7) (v := .int (A 7)) hW (by decide) (zT_mem 163 (by decide +kernel) rfl) (fun _ _ _ _ => rfl) (by decide +kernel) ?_
      refine zV_blk (pc' := 34) (lo' := [(0, .ref al), (1, .int x1), (2, .ref a2)]) (st' := [.int 12, .int ((A 7) + 1), .ref al]) [.iconst 1, .iadd, .bipush 12] (by decide +kernel) rfl ?_
      obtain ⟨hz, h⟩ := zck_some h
      refine zV_irem (by decide +kernel) (of_decide_eq_true hz) ?_
      refine l_putI (idx := 36) (k := 7) (x := (((A 7) + 1) - ((A 7) + 1) / 12 * 12)) hW (by decide) (zT_mem 163 (by decide +kernel) rfl) (by decide +kernel) (fun hm hW hFr2 => ?_)
      replace hFr := hFr.tr hFr2; clear hFr2
      refine zV_blk (pc' := 40) (lo' := [(0, .ref al), (1, .int x1), (2, .ref a2)]) (st' := [.ref al, .ref al]) [.aload_n 0, .aload_n 0] (by decide +kernel) rfl ?_
      refine l_get (idx := 39) (k := 8) (v := .int ((upd A 7 (((A 7) + 1) - ((A 7) + 1) / 12 * 12)) 8)) hW (by decide) (zT_mem 164 (by decide +kernel) rfl) (fun _ _ _ _ => rfl) (by decide +kernel) ?_
      refine zV_blk (pc' := 47) (lo' := [(0, .ref al), (1, .int x1), (2, .ref a2)]) (st' := [.int 12, .int (((upd A 7 (((A 7) + 1) - ((A 7) + 1) / 12 * 12)) 8) + 1), .ref al]) [.iconst 1, .iadd, .bipush 12] (by decide +kernel) rfl ?_
      obtain ⟨v9, hv9, h⟩ := zbind h
      refine zV_roS (idx := 201) (rest := [.ref al]) (fun Q2 hQ2 => cj_minI s0 D cB cI cJ cD (((upd A 7 (((A 7) + 1) - ((A 7) + 1) / 12 * 12)) 8) + 1) 12  v9 hv9  hQ2) oJ9_min_7cf53 (zT_mem 580 (by decide +kernel) rfl) (zT_mem 225 (by decide +kernel) rfl) rfl rfl (Nat.le_of_ble_eq_true rfl) ⟨by decide, by decide⟩ (by decide +kernel) ?_
      refine zV_eq (st2 := [.int v9, .ref al]) rfl rfl rfl rfl ?_
      refine l_putI (idx := 39) (k := 8) (x := v9) hW (by decide) (zT_mem 164 (by decide +kernel) rfl) (by decide +kernel) (fun hm hW hFr2 => ?_)
      replace hFr := hFr.tr hFr2; clear hFr2
      refine zV_blk (pc' := 54) (lo' := [(0, .ref al), (1, .int x1), (2, .ref a2)]) (st' := [.ref al]) [.aload_n 0] (by decide +kernel) rfl ?_
      refine l_get (idx := 25) (k := 4) (v := .ref l2) hW (by decide) (zT_mem 160 (by decide +kernel) rfl) (fun _ _ _ _ => rfl) (by decide +kernel) ?_
      refine zV_blk (pc' := 59) (lo' := [(0, .ref al), (1, .int x1), (2, .ref a2)]) (st' := [.ref a2, .int x1, .ref l2]) [.iload_n 1, .aload_n 2] (by decide +kernel) rfl ?_
      obtain ⟨hz, h⟩ := zck_some h
      refine l_dst hW ho2 hz (by decide +kernel) (fun hm hW hFr2 => ?_)
      replace hFr := hFr.tr hFr2; clear hFr2
      obtain rfl := Option.some.inj h
      exact zV_vret rfl (by decide +kernel) (hQ _ rfl _ _ _ hXX hW hFr)
    · rw [hx] at h; replace h := zOm_some h
      obtain ⟨hz, h⟩ := zck_some h
      refine l_vst hW ho8 hz (by decide +kernel) (fun hm hW hFr2 => ?_)
      replace hFr := hFr.tr hFr2; clear hFr2
      refine zV_blk (pc' := 27) (lo' := [(0, .ref al), (1, .int x1), (2, .ref a2)]) (st' := [.ref al, .ref al]) [.aload_n 0, .aload_n 0] (by decide +kernel) rfl ?_
      refine l_get (idx := 36) (k := 7) (v := .int (A 7)) hW (by decide) (zT_mem 163 (by decide +kernel) rfl) (fun _ _ _ _ => rfl) (by decide +kernel) ?_
      refine zV_blk (pc' := 34) (lo' := [(0, .ref al), (1, .int x1), (2, .ref a2)]) (st' := [.int 12, .int ((A 7) + 1), .ref al]) [.iconst 1, .iadd, .bipush 12] (by decide +kernel) rfl ?_
      obtain ⟨hz, h⟩ := zck_some h
      refine zV_irem (by decide +kernel) (of_decide_eq_true hz) ?_
      refine l_putI (idx := 36) (k := 7) (x := (((A 7) + 1) - ((A 7) + 1) / 12 * 12)) hW (by decide) (zT_mem 163 (by decide +kernel) rfl) (by decide +kernel) (fun hm hW hFr2 => ?_)
      replace hFr := hFr.tr hFr2; clear hFr2
      refine zV_blk (pc' := 40) (lo' := [(0, .ref al), (1, .int x1), (2, .ref a2)]) (st' := [.ref al, .ref al]) [.aload_n 0, .aload_n 0] (by decide +kernel) rfl ?_
      refine l_get (idx := 39) (k := 8) (v := .int ((upd A 7 (((A 7) + 1) - ((A 7) + 1) / 12 * 12)) 8)) hW (by decide) (zT_mem 164 (by decide +kernel) rfl) (fun _ _ _ _ => rfl) (by decide +kernel) ?_
      refine zV_blk (pc' := 47) (lo' := [(0, .ref al), (1, .int x1), (2, .ref a2)]) (st' := [.int 12, .int (((upd A 7 (((A 7) + 1) - ((A 7) + 1) / 12 * 12)) 8) + 1), .ref al]) [.iconst 1, .iadd, .bipush 12] (by decide +kernel) rfl ?_
      obtain ⟨v10, hv10, h⟩ := zbind h
      refine zV_roS (idx := 201) (rest := [.ref al]) (fun Q2 hQ2 => cj_minI s0 D cB cI cJ cD (((upd A 7 (((A 7) + 1) - ((A 7) + 1) / 12 * 12)) 8) + 1) 12  v10 hv10  hQ2) oJ9_min_7cf53 (zT_mem 580 (by decide +kernel) rfl) (zT_mem 225 (by decide +kernel) rfl) rfl rfl (Nat.le_of_ble_eq_true rfl) ⟨by decide, by decide⟩ (by decide +kernel) ?_
      refine zV_eq (st2 := [.int v10, .ref al]) rfl rfl rfl rfl ?_
      refine l_putI (idx := 39) (k := 8) (x := v10) hW (by decide) (zT_mem 164 (by decide +kernel) rfl) (by decide +kernel) (fun hm hW hFr2 => ?_)
      replace hFr := hFr.tr hFr2; clear hFr2
      refine zV_blk (pc' := 54) (lo' := [(0, .ref al), (1, .int x1), (2, .ref a2)]) (st' := [.ref al]) [.aload_n 0] (by decide +kernel) rfl ?_
      refine l_get (idx := 25) (k := 4) (v := .ref l2) hW (by decide) (zT_mem 160 (by decide +kernel) rfl) (fun _ _ _ _ => rfl) (by decide +kernel) ?_
      refine zV_blk (pc' := 59) (lo' := [(0, .ref al), (1, .int x1), (2, .ref a2)]) (st' := [.ref a2, .int x1, .ref l2]) [.iload_n 1, .aload_n 2] (by decide +kernel) rfl ?_
      obtain ⟨hz, h⟩ := zck_some h
      refine l_dst hW ho2 hz (by decide +kernel) (fun hm hW hFr2 => ?_)
      replace hFr := hFr.tr hFr2; clear hFr2
      obtain rfl := Option.some.inj h
      exact zV_vret rfl (by decide +kernel) (hQ _ rfl _ _ _ hXX hW hFr)

