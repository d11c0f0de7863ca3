def k_yearCompleting_36 (n : Nat) (x0 : vLaw) (x1 : Int32) (x2 : Int32) (x3 : Int32) : Option ((Int32 × Int32) ⊕ (Int32)) := some (.inl (x2, (x3 / 2)))
set_option maxHeartbeats 4000000 in
set_option maxRecDepth 100000 in
theorem ck_yearCompleting_36 (s0 : State) (D : va_G) (cB cI cJ cD : ClassId) (n : Nat) (x0 : vLaw) (x1 : Int32) (x2 : Int32) (x3 : Int32) (a0 : Nat) {x : (Int32 × Int32) ⊕ (Int32)} {hi hm : zHp} {nx : Nat} {Q : Option Value → zHp → zHp → Nat → Prop} (ho0 : iLaw cI hi a0 x0) (h : k_yearCompleting_36 n x0 x1 x2 x3 = some x) (hL8 : ∀ s : Int32 × Int32, x = (.inl s) → zV s0 D (zty cB cI cJ cD) yX11_yearCompleting cX11_yearCompleting 4 (some .int) 2 46 0 0 8 [(0, .ref a0), (1, .int x1), (2, .int s.1), (3, .int s.2)] [] hi hm nx Q) (hQ : ∀ r : Int32, x = (.inr r) → Q (some (.int r)) hi hm nx) : zV s0 D (zty cB cI cJ cD) yX11_yearCompleting cX11_yearCompleting 4 (some .int) 2 46 0 0 36 [(0, .ref a0), (1, .int x1), (2, .int x2), (3, .int x3)] [] hi hm nx Q := by
  unfold k_yearCompleting_36 at h
  refine zV_blk (pc' := 38) (lo' := [(0, .ref a0), (1, .int x1), (2, .int x2), (3, .int x3)]) (st' := [.int 2, .int x3]) [.iload_n 3, .iconst 2] (by decide +kernel) rfl ?_
  refine zV_idiv (by decide +kernel) (by decide +kernel) ?_
  refine zV_blk (pc' := 40) (lo' := [(3, .int (x3 / 2)), (0, .ref a0), (1, .int x1), (2, .int x2)]) (st' := []) [.istore_n 3] (by decide +kernel) rfl ?_
  refine zV_goto (tgt := 8) (off := -32) (by decide +kernel) (by decide) ?_
  obtain rfl := Option.some.inj h
  refine zV_pick (lo2 := [(0, .ref a0), (1, .int x1), (2, .int x2), (3, .int (x3 / 2))]) [1, 2, 3, 0] rfl ?_
  exact hL8 _ rfl
def k_yearCompleting_8 (n : Nat) (x0 : vLaw) (x1 : Int32) (s : Int32 × Int32) : Option ((Int32 × Int32) ⊕ (Int32)) := (if (s.2 : Int32) ≤ (0 : Int32) then some (.inr s.1) else (if (100000 : Int32) < ((s.1 + s.2) : Int32) then (k_yearCompleting_36 n x0 x1 s.1 s.2 ) else (d_leapsBefore n x0 (s.1 + s.2)).bind (fun v1 => (if (x1 : Int32) ≤ (v1 : Int32) then (k_yearCompleting_36 n x0 x1 s.1 s.2 ) else (k_yearCompleting_36 n x0 x1 (s.1 + s.2) s.2 )))))
set_option maxHeartbeats 4000000 in
set_option maxRecDepth 100000 in
theorem ck_yearCompleting_8 (s0 : State) (D : va_G) (cB cI cJ cD : ClassId) (n : Nat) (x0 : vLaw) (x1 : Int32) (a0 : Nat) (s : Int32 × Int32) {x : (Int32 × Int32) ⊕ (Int32)} {hi hm : zHp} {nx : Nat} {Q : Option Value → zHp → zHp → Nat → Prop} (ho0 : iLaw cI hi a0 x0) (h : k_yearCompleting_8 n x0 x1 s = some x) (hL8 : ∀ s : Int32 × Int32, x = (.inl s) → zV s0 D (zty cB cI cJ cD) yX11_yearCompleting cX11_yearCompleting 4 (some .int) 2 46 0 0 8 [(0, .ref a0), (1, .int x1), (2, .int s.1), (3, .int s.2)] [] hi hm nx Q) (hQ : ∀ r : Int32, x = (.inr r) → Q (some (.int r)) hi hm nx) : zV s0 D (zty cB cI cJ cD) yX11_yearCompleting cX11_yearCompleting 4 (some .int) 2 46 0 0 8 [(0, .ref a0), (1, .int x1), (2, .int s.1), (3, .int s.2)] [] hi hm nx Q := by
  unfold k_yearCompleting_8 at h
  refine zV_blk (pc' := 9) (lo' := [(0, .ref a0), (1, .int x1), (2, .int s.1), (3, .int s.2)]) (st' := [.int s.2]) [.iload_n 3] (by decide +kernel) rfl ?_
  refine zV_if_le (tgt := 43) (off := 34) (by decide +kernel) (by decide) (fun q => ?_) (fun q => ?_)
  · replace h := zif_pos q h
    clear q
    refine zV_blk (pc' := 44) (lo' := [(0, .ref a0), (1, .int x1), (2, .int s.1), (3, .int s.2)]) (st' := [.int s.1]) [.iload_n 2] (by decide +kernel) rfl ?_
    obtain rfl := Option.some.inj h
    exact zV_iret rfl (by decide +kernel) (hQ _ rfl)
  · replace h := zif_neg q h
    clear q
    refine zV_blk (pc' := 15) (lo' := [(0, .ref a0), (1, .int x1), (2, .int s.1), (3, .int s.2)]) (st' := [.int (s.1 + s.2)]) [.iload_n 2, .iload_n 3, .iadd] (by decide +kernel) rfl ?_
    refine zV_ldcw (idx := 341) (v := 100000) (zT_mem 1013 (by decide +kernel) rfl) (by decide +kernel) ?_
    refine zV_icmp_gt (tgt := 36) (off := 18) (by decide +kernel) (by decide) (fun q => ?_) (fun q => ?_)
    · replace h := zif_pos q h
      clear q
      refine zV_pick (lo2 := [(0, .ref a0), (1, .int x1), (2, .int s.1), (3, .int s.2)]) [0, 1, 2, 3] rfl ?_
      exact ck_yearCompleting_36 s0 D cB cI cJ cD n x0 x1 s.1 s.2  a0 ho0 h hL8 hQ
    · replace h := zif_neg q h
      clear q
      refine zV_blk (pc' := 25) (lo' := [(0, .ref a0), (1, .int x1), (2, .int s.1), (3, .int s.2)]) (st' := [.int (s.1 + s.2), .ref a0]) [.aload_n 0, .iload_n 2, .iload_n 3, .iadd] (by decide +kernel) rfl ?_
      obtain ⟨v1, hv1, h⟩ := zbind h
      refine dc_leapsBefore s0 D cB cI cJ cD (idx := 226) n x0 (s.1 + s.2) a0 v1 hv1 ho0 (zT_mem 1031 (by decide +kernel) rfl) (rest := []) rfl (Nat.le_of_ble_eq_true rfl) ⟨by decide, by decide⟩ (by decide +kernel) ?_
      refine zV_eq (st2 := [.int v1]) rfl rfl rfl rfl ?_
      refine zV_blk (pc' := 29) (lo' := [(0, .ref a0), (1, .int x1), (2, .int s.1), (3, .int s.2)]) (st' := [.int x1, .int v1]) [.iload_n 1] (by decide +kernel) rfl ?_
      refine zV_icmp_ge (tgt := 36) (off := 7) (by decide +kernel) (by decide) (fun q => ?_) (fun q => ?_)
      · replace h := zif_pos q h
        clear q
        refine zV_pick (lo2 := [(0, .ref a0), (1, .int x1), (2, .int s.1), (3, .int s.2)]) [0, 1, 2, 3] rfl ?_
        exact ck_yearCompleting_36 s0 D cB cI cJ cD n x0 x1 s.1 s.2  a0 ho0 h hL8 hQ
      · replace h := zif_neg q h
        clear q
        refine zV_blk (pc' := 36) (lo' := [(2, .int (s.1 + s.2)), (0, .ref a0), (1, .int x1), (3, .int s.2)]) (st' := []) [.iload_n 2, .iload_n 3, .iadd, .istore_n 2] (by decide +kernel) rfl ?_
        refine zV_pick (lo2 := [(0, .ref a0), (1, .int x1), (2, .int (s.1 + s.2)), (3, .int s.2)]) [1, 2, 0, 3] rfl ?_
        exact ck_yearCompleting_36 s0 D cB cI cJ cD n x0 x1 (s.1 + s.2) s.2  a0 ho0 h hL8 hQ
theorem ck_yearCompleting_8L (s0 : State) (D : va_G) (cB cI cJ cD : ClassId) (n : Nat) (x0 : vLaw) (x1 : Int32) (a0 : Nat) : ∀ (k : Nat) (s : Int32 × Int32) {hi hm : zHp} {nx : Nat} {Q : Option Value → zHp → zHp → Nat → Prop} (ho0 : iLaw cI hi a0 x0) {x : Int32} (_ : zloop (k_yearCompleting_8 n x0 x1) k s = some x) (hQ : ∀ r : Int32, x = r → Q (some (.int r)) hi hm nx), zV s0 D (zty cB cI cJ cD) yX11_yearCompleting cX11_yearCompleting 4 (some .int) 2 46 0 0 8 [(0, .ref a0), (1, .int x1), (2, .int s.1), (3, .int s.2)] [] hi hm nx Q
  | 0, s, _, _, _, _, _, _, h, _ => by cases h
  | k + 1, s, hi, hm, nx, Q, ho0, x, h, hQ => by
    obtain ⟨z, hz, h1, h2⟩ := zloop_succ h
    exact ck_yearCompleting_8 s0 D cB cI cJ cD n x0 x1 a0 s ho0 hz (fun s' hs => ck_yearCompleting_8L s0 D cB cI cJ cD n x0 x1 a0 k s' ho0 (h1 s' hs) hQ) (fun r hr => hQ r (h2 _ hr).symm)
def k_yearCompleting (n : Nat) (x0 : vLaw) (x1 : Int32) : Option (Int32) := (zloop (k_yearCompleting_8 n x0 x1) n ((-100000), 131072))
theorem oX11_yearCompleting : zO yX11_yearCompleting cX11_yearCompleting 4 (some .int) 2 := ⟨zT_mem 1261 (by decide +kernel) rfl, zT_mem 89 (by decide +kernel) rfl, by decide +kernel, by decide +kernel, by decide +kernel⟩
set_option maxHeartbeats 4000000 in
set_option maxRecDepth 100000 in
theorem ck_yearCompleting (s0 : State) (D : va_G) (cB cI cJ cD : ClassId) (n : Nat) (x0 : vLaw) (x1 : Int32) (a0 : Nat) (x : Int32) (h : k_yearCompleting n x0 x1 = some x) {hi hm : zHp} {nx : Nat} {Q : Option Value → zHp → zHp → Nat → Prop} (ho0 : iLaw cI hi a0 x0) (hQ0 : Q (some (.int x)) hi hm nx) : zM s0 D (zty cB cI cJ cD) yX11_yearCompleting cX11_yearCompleting 4 (some .int) 2 46 0 0 [.ref a0, .int x1] hi hm nx Q := by
  have hQ : ∀ r : Int32, x = r → Q (some (.int r)) hi hm nx := fun r hr => by subst hr; exact hQ0
  clear hQ0
  refine zM_of (by decide +kernel) (Nat.le_of_ble_eq_true rfl) ?_
  unfold k_yearCompleting at h
  refine zV_eq (lo2 := [(0, .ref a0), (1, .int x1)]) rfl rfl rfl rfl ?_
  refine zV_ldcw (idx := 335) (v := (-100000)) (zT_mem 1012 (by decide +kernel) rfl) (by decide +kernel) ?_
  refine zV_blk (pc' := 4) (lo' := [(2, .int (-100000)), (0, .ref a0), (1, .int x1)]) (st' := []) [.istore_n 2] (by decide +kernel) rfl ?_
  refine zV_ldcw (idx := 340) (v := 131072) (zT_mem 1262 (by decide +kernel) rfl) (by decide +kernel) ?_
  refine zV_blk (pc' := 8) (lo' := [(3, .int 131072), (2, .int (-100000)), (0, .ref a0), (1, .int x1)]) (st' := []) [.istore_n 3] (by decide +kernel) rfl ?_
  refine zV_pick (lo2 := [(0, .ref a0), (1, .int x1), (2, .int (-100000)), (3, .int 131072)]) [2, 3, 1, 0] rfl ?_
  exact ck_yearCompleting_8L s0 D cB cI cJ cD n x0 x1 a0 n ((-100000), 131072) ho0 h hQ

def k_lonelyLeaps_47 (n : Nat) (x0 : vLaw) (x1 : vLaw) (x3 : Int32) (x4 : Int32) (x5 : Int32) (x6 : Int32) (x7 : Int32) : Option ((Int32 × Int32 × Int32) ⊕ (Int64)) := some (.inl (x5, x6, (x7 + 1)))
set_option maxHeartbeats 4000000 in
set_option maxRecDepth 100000 in
theorem ck_lonelyLeaps_47 (s0 : State) (D : va_G) (cB cI cJ cD : ClassId) (n : Nat) (x0 : vLaw) (x1 : vLaw) (x3 : Int32) (x4 : Int32) (x5 : Int32) (x6 : Int32) (x7 : Int32) (a0 : Nat) (a1 : Nat) {x : (Int32 × Int32 × Int32) ⊕ (Int64)} {hi hm : zHp} {nx : Nat} {Q : Option Value → zHp → zHp → Nat → Prop} (ho0 : iLaw cI hi a0 x0) (ho1 : iLaw cI hi a1 x1) (h : k_lonelyLeaps_47 n x0 x1 x3 x4 x5 x6 x7 = some x) (hL9 : ∀ s : Int32 × Int32 × Int32, x = (.inl s) → zV s0 D (zty cB cI cJ cD) yX11_lonelyLeaps cX11_lonelyLeaps 8 (some .long) 2 44 0 0 9 [(0, .ref a0), (1, .ref a1), (3, .int x3), (4, .int x4), (5, .int s.1), (6, .int s.2.1), (7, .int s.2.2)] [] hi hm nx Q) (hQ : ∀ r : Int64, x = (.inr r) → Q (some (.long r)) hi hm nx) : zV s0 D (zty cB cI cJ cD) yX11_lonelyLeaps cX11_lonelyLeaps 8 (some .long) 2 44 0 0 47 [(0, .ref a0), (1, .ref a1), (3, .int x3), (4, .int x4), (5, .int x5), (6, .int x6), (7, .int x7)] [] hi hm nx Q := by
  unfold k_lonelyLeaps_47 at h
  refine zV_blk (pc' := 50) (lo' := [(7, .int (x7 + 1)), (0, .ref a0), (1, .ref a1), (3, .int x3), (4, .int x4), (5, .int x5), (6, .int x6)]) (st' := []) [.iinc 7 1] (by decide +kernel) rfl ?_
  refine zV_goto (tgt := 9) (off := -41) (by decide +kernel) (by decide) ?_
  obtain rfl := Option.some.inj h
  refine zV_pick (lo2 := [(0, .ref a0), (1, .ref a1), (3, .int x3), (4, .int x4), (5, .int x5), (6, .int x6), (7, .int (x7 + 1))]) [1, 2, 3, 4, 5, 6, 0] rfl ?_
  exact hL9 _ rfl
def k_lonelyLeaps_42 (n : Nat) (x0 : vLaw) (x1 : vLaw) (x3 : Int32) (x4 : Int32) (x6 : Int32) (x7 : Int32) (t0 : Int32) : Option ((Int32 × Int32 × Int32) ⊕ (Int64)) := (k_lonelyLeaps_47 n x0 x1 x3 x4 t0 (x6 + 1) x7 )
set_option maxHeartbeats 4000000 in
set_option maxRecDepth 100000 in
theorem ck_lonelyLeaps_42 (s0 : State) (D : va_G) (cB cI cJ cD : ClassId) (n : Nat) (x0 : vLaw) (x1 : vLaw) (x3 : Int32) (x4 : Int32) (x6 : Int32) (x7 : Int32) (t0 : Int32) (a0 : Nat) (a1 : Nat) {x : (Int32 × Int32 × Int32) ⊕ (Int64)} {hi hm : zHp} {nx : Nat} {Q : Option Value → zHp → zHp → Nat → Prop} (ho0 : iLaw cI hi a0 x0) (ho1 : iLaw cI hi a1 x1) (h : k_lonelyLeaps_42 n x0 x1 x3 x4 x6 x7 t0 = some x) (hL9 : ∀ s : Int32 × Int32 × Int32, x = (.inl s) → zV s0 D (zty cB cI cJ cD) yX11_lonelyLeaps cX11_lonelyLeaps 8 (some .long) 2 44 0 0 9 [(0, .ref a0), (1, .ref a1), (3, .int x3), (4, .int x4), (5, .int s.1), (6, .int s.2.1), (7, .int s.2.2)] [] hi hm nx Q) (hQ : ∀ r : Int64, x = (.inr r) → Q (some (.long r)) hi hm nx) : zV s0 D (zty cB cI cJ cD) yX11_lonelyLeaps cX11_lonelyLeaps 8 (some .long) 2 44 0 0 42 [(0, .ref a0), (1, .ref a1), (3, .int x3), (4, .int x4), (6, .int x6), (7, .int x7)] [.int t0] hi hm nx Q := by
  unfold k_lonelyLeaps_42 at h
  refine zV_blk (pc' := 47) (lo' := [(6, .int (x6 + 1)), (5, .int t0), (0, .ref a0), (1, .ref a1), (3, .int x3), (4, .int x4), (7, .int x7)]) (st' := []) [.istore 5, .iinc 6 1] (by decide +kernel) rfl ?_
  refine zV_pick (lo2 := [(0, .ref a0), (1, .ref a1), (3, .int x3), (4, .int x4), (5, .int t0), (6, .int (x6 + 1)), (7, .int x7)]) [2, 3, 4, 5, 1, 0, 6] rfl ?_
  exact ck_lonelyLeaps_47 s0 D cB cI cJ cD n x0 x1 x3 x4 t0 (x6 + 1) x7  a0 a1 ho0 ho1 h hL9 hQ
def k_lonelyLeaps_9 (n : Nat) (x0 : vLaw) (x1 : vLaw) (x3 : Int32) (x4 : Int32) (s : Int32 × Int32 × Int32) : Option ((Int32 × Int32 × Int32) ⊕ (Int64)) := (if (x3 : Int32) < (s.2.2 : Int32) then (if (x4 : Int32) = (0 : Int32) then some (.inr (s.2.1 : Int32).toInt64) else some (.inr (s.1 : Int32).toInt64)) else (d_isLeap n x0 s.2.2).bind (fun v1 => (d_isLeap n x1 s.2.2).bind (fun v2 => (if ((zb v1) : Int32) = ((zb v2) : Int32) then (k_lonelyLeaps_47 n x0 x1 x3 x4 s.1 s.2.1 s.2.2 ) else (if (s.2.1 : Int32) = (0 : Int32) then (k_lonelyLeaps_42 n x0 x1 x3 x4 s.2.1 s.2.2 s.2.2) else (k_lonelyLeaps_42 n x0 x1 x3 x4 s.2.1 s.2.2 s.1))))))
set_option maxHeartbeats 4000000 in
set_option maxRecDepth 100000 in
theorem ck_lonelyLeaps_9 (s0 : State) (D : va_G) (cB cI cJ cD : ClassId) (n : Nat) (x0 : vLaw) (x1 : vLaw) (x3 : Int32) (x4 : Int32) (a0 : Nat) (a1 : Nat) (s : Int32 × Int32 × Int32) {x : (Int32 × Int32 × Int32) ⊕ (Int64)} {hi hm : zHp} {nx : Nat} {Q : Option Value → zHp → zHp → Nat → Prop} (ho0 : iLaw cI hi a0 x0) (ho1 : iLaw cI hi a1 x1) (h : k_lonelyLeaps_9 n x0 x1 x3 x4 s = some x) (hL9 : ∀ s : Int32 × Int32 × Int32, x = (.inl s) → zV s0 D (zty cB cI cJ cD) yX11_lonelyLeaps cX11_lonelyLeaps 8 (some .long) 2 44 0 0 9 [(0, .ref a0), (1, .ref a1), (3, .int x3), (4, .int x4), (5, .int s.1), (6, .int s.2.1), (7, .int s.2.2)] [] hi hm nx Q) (hQ : ∀ r : Int64, x = (.inr r) → Q (some (.long r)) hi hm nx) : zV s0 D (zty cB cI cJ cD) yX11_lonelyLeaps cX11_lonelyLeaps 8 (some .long) 2 44 0 0 9 [(0, .ref a0), (1, .ref a1), (3, .int x3), (4, .int x4), (5, .int s.1), (6, .int s.2.1), (7, .int s.2.2)] [] hi hm nx Q := by
  unfold k_lonelyLeaps_9 at h
  refine zV_blk (pc' := 12) (lo' := [(0, .ref a0), (1, .ref a1), (3, .int x3), (4, .int x4), (5, .int s.1), (6, .int s.2.1), (7, .int s.2.2)]) (st' := [.int x3, .int s.2.2]) [.iload 7, .iload_n 3] (by decide +kernel) rfl ?_
  refine zV_icmp_gt (tgt := 53) (off := 41) (by decide +kernel) (by decide) (fun q => ?_) (fun q => ?_)
  · replace h := zif_pos q h
    clear q
    refine zV_blk (pc' := 55) (lo' := [(0, .ref a0), (1, .ref a1), (3, .int x3), (4, .int x4), (5, .int s.1), (6, .int s.2.1), (7, .int s.2.2)]) (st' := [.int x4]) [.iload 4] (by decide +kernel) rfl ?_
    refine zV_if_ne (tgt := 64) (off := 9) (by decide +kernel) (by decide) (fun q => ?_) (fun q => ?_)
    · replace h := zif_neg q h
      clear q
      refine zV_blk (pc' := 67) (lo' := [(0, .ref a0), (1, .ref a1), (3, .int x3), (4, .int x4), (5, .int s.1), (6, .int s.2.1), (7, .int s.2.2)]) (st' := [.long (s.1 : Int32).toInt64]) [.iload 5, .i2l] (by decide +kernel) rfl ?_
      obtain rfl := Option.some.inj h
      exact zV_lret rfl (by decide +kernel) (hQ _ rfl)
    · replace h := zif_pos q h
      clear q
      refine zV_blk (pc' := 61) (lo' := [(0, .ref a0), (1, .ref a1), (3, .int x3), (4, .int x4), (5, .int s.1), (6, .int s.2.1), (7, .int s.2.2)]) (st' := [.long (s.2.1 : Int32).toInt64]) [.iload 6, .i2l] (by decide +kernel) rfl ?_
      refine zV_goto (tgt := 67) (off := 6) (by decide +kernel) (by decide) ?_
      obtain rfl := Option.some.inj h
      exact zV_lret rfl (by decide +kernel) (hQ _ rfl)
  · replace h := zif_neg q h
    clear q
    refine zV_blk (pc' := 18) (lo' := [(0, .ref a0), (1, .ref a1), (3, .int x3), (4, .int x4), (5, .int s.1), (6, .int s.2.1), (7, .int s.2.2)]) (st' := [.int s.2.2, .ref a0]) [.aload_n 0, .iload 7] (by decide +kernel) rfl ?_
    obtain ⟨v1, hv1, h⟩ := zbind h
    refine dc_isLeap s0 D cB cI cJ cD (idx := 223) n x0 s.2.2 a0 v1 hv1 ho0 (zT_mem 1014 (by decide +kernel) rfl) (rest := []) rfl (Nat.le_of_ble_eq_true rfl) ⟨by decide, by decide⟩ (by decide +kernel) ?_
    refine zV_eq (st2 := [.int (zb v1)]) rfl rfl rfl rfl ?_
    refine zV_blk (pc' := 24) (lo' := [(0, .ref a0), (1, .ref a1), (3, .int x3), (4, .int x4), (5, .int s.1), (6, .int s.2.1), (7, .int s.2.2)]) (st' := [.int s.2.2, .ref a1, .int (zb v1)]) [.aload_n 1, .iload 7] (by decide +kernel) rfl ?_
    obtain ⟨v2, hv2, h⟩ := zbind h
    refine dc_isLeap s0 D cB cI cJ cD (idx := 223) n x1 s.2.2 a1 v2 hv2 ho1 (zT_mem 1014 (by decide +kernel) rfl) (rest := [.int (zb v1)]) rfl (Nat.le_of_ble_eq_true rfl) ⟨by decide, by decide⟩ (by decide +kernel) ?_
    refine zV_eq (st2 := [.int (zb v2), .int (zb v1)]) rfl rfl rfl rfl ?_
    refine zV_icmp_eq (tgt := 47) (off := 20) (by decide +kernel) (by decide) (fun q => ?_) (fun q => ?_)
    · replace h := zif_pos q h
      clear q
      refine zV_pick (lo2 := [(0, .ref a0), (1, .ref a1), (3, .int x3), (4, .int x4), (5, .int s.1), (6, .int s.2.1), (7, .int s.2.2)]) [0, 1, 2, 3, 4, 5, 6] rfl ?_
      exact ck_lonelyLeaps_47 s0 D cB cI cJ cD n x0 x1 x3 x4 s.1 s.2.1 s.2.2  a0 a1 ho0 ho1 h hL9 hQ
    · replace h := zif_neg q h
      clear q
      refine zV_blk (pc' := 32) (lo' := [(0, .ref a0), (1, .ref a1), (3, .int x3), (4, .int x4), (5, .int s.1), (6, .int s.2.1), (7, .int s.2.2)]) (st' := [.int s.2.1]) [.iload 6] (by decide +kernel) rfl ?_
      refine zV_if_ne (tgt := 40) (off := 8) (by decide +kernel) (by decide) (fun q => ?_) (fun q => ?_)
      · replace h := zif_neg q h
        clear q
        refine zV_blk (pc' := 42) (lo' := [(0, .ref a0), (1, .ref a1), (3, .int x3), (4, .int x4), (5, .int s.1), (6, .int s.2.1), (7, .int s.2.2)]) (st' := [.int s.1]) [.iload 5] (by decide +kernel) rfl ?_
        refine zV_pick (lo2 := [(0, .ref a0), (1, .ref a1), (3, .int x3), (4, .int x4), (6, .int s.2.1), (7, .int s.2.2)]) [0, 1, 2, 3, 5, 6] rfl ?_
        exact ck_lonelyLeaps_42 s0 D cB cI cJ cD n x0 x1 x3 x4 s.2.1 s.2.2 s.1 a0 a1 ho0 ho1 h hL9 hQ
      · replace h := zif_pos q h
        clear q
        refine zV_blk (pc' := 37) (lo' := [(0, .ref a0), (1, .ref a1), (3, .int x3), (4, .int x4), (5, .int s.1), (6, .int s.2.1), (7, .int s.2.2)]) (st' := [.int s.2.2]) [.iload 7] (by decide +kernel) rfl ?_
        refine zV_goto (tgt := 42) (off := 5) (by decide +kernel) (by decide) ?_
        refine zV_pick (lo2 := [(0, .ref a0), (1, .ref a1), (3, .int x3), (4, .int x4), (6, .int s.2.1), (7, .int s.2.2)]) [0, 1, 2, 3, 5, 6] rfl ?_
        exact ck_lonelyLeaps_42 s0 D cB cI cJ cD n x0 x1 x3 x4 s.2.1 s.2.2 s.2.2 a0 a1 ho0 ho1 h hL9 hQ
theorem ck_lonelyLeaps_9L (s0 : State) (D : va_G) (cB cI cJ cD : ClassId) (n : Nat) (x0 : vLaw) (x1 : vLaw) (x3 : Int32) (x4 : Int32) (a0 : Nat) (a1 : Nat) : ∀ (k : Nat) (s : Int32 × Int32 × Int32) {hi hm : zHp} {nx : Nat} {Q : Option Value → zHp → zHp → Nat → Prop} (ho0 : iLaw cI hi a0 x0) (ho1 : iLaw cI hi a1 x1) {x : Int64} (_ : zloop (k_lonelyLeaps_9 n x0 x1 x3 x4) k s = some x) (hQ : ∀ r : Int64, x = r → Q (some (.long r)) hi hm nx), zV s0 D (zty cB cI cJ cD) yX11_lonelyLeaps cX11_lonelyLeaps 8 (some .long) 2 44 0 0 9 [(0, .ref a0), (1, .ref a1), (3, .int x3), (4, .int x4), (5, .int s.1), (6, .int s.2.1), (7, .int s.2.2)] [] hi hm nx Q
  | 0, s, _, _, _, _, _, _, _, h, _ => by cases h
  | k + 1, s, hi, hm, nx, Q, ho0, ho1, x, h, hQ => by
    obtain ⟨z, hz, h1, h2⟩ := zloop_succ h
    exact ck_lonelyLeaps_9 s0 D cB cI cJ cD n x0 x1 x3 x4 a0 a1 s ho0 ho1 hz (fun s' hs => ck_lonelyLeaps_9L s0 D cB cI cJ cD n x0 x1 x3 x4 a0 a1 k s' ho0 ho1 (h1 s' hs) hQ) (fun r hr => hQ r (h2 _ hr).symm)
def k_lonelyLeaps (n : Nat) (x0 : vLaw) (x1 : vLaw) (x2 : Int32) (x3 : Int32) (x4 : Int32) : Option (Int64) := (zloop (k_lonelyLeaps_9 n x0 x1 x3 x4) n ((-1), 0, x2))
theorem oX11_lonelyLeaps : zO yX11_lonelyLeaps cX11_lonelyLeaps 8 (some .long) 5 := ⟨zT_mem 1391 (by decide +kernel) rfl, zT_mem 89 (by decide +kernel) rfl, by decide +kernel, by decide +kernel, by decide +kernel⟩
set_option maxHeartbeats 4000000 in
set_option maxRecDepth 100000 in
theorem ck_lonelyLeaps (s0 : State) (D : va_G) (cB cI cJ cD : ClassId) (n : Nat) (x0 : vLaw) (x1 : vLaw) (x2 : Int32) (x3 : Int32) (x4 : Int32) (a0 : Nat) (a1 : Nat) (x : Int64) (h : k_lonelyLeaps n x0 x1 x2 x3 x4 = some x) {hi hm : zHp} {nx : Nat} {Q : Option Value → zHp → zHp → Nat → Prop} (ho0 : iLaw cI hi a0 x0) (ho1 : iLaw cI hi a1 x1) (hQ0 : Q (some (.long x)) hi hm nx) : zM s0 D (zty cB cI cJ cD) yX11_lonelyLeaps cX11_lonelyLeaps 8 (some .long) 2 44 0 0 [.ref a0, .ref a1, .int x2, .int x3, .int x4] hi hm nx Q := by
  have hQ : ∀ r : Int64, x = r → Q (some (.long r)) hi hm nx := fun r hr => by subst hr; exact hQ0
  clear hQ0
  refine zM_of (by decide +kernel) (Nat.le_of_ble_eq_true rfl) ?_
  unfold k_lonelyLeaps at h
  refine zV_eq (lo2 := [(0, .ref a0), (1, .ref a1), (2, .int x2), (3, .int x3), (4, .int x4)]) rfl rfl rfl rfl ?_
  refine zV_blk (pc' := 9) (lo' := [(7, .int x2), (6, .int 0), (5, .int (-1)), (0, .ref a0), (1, .ref a1), (2, .int x2), (3, .int x3), (4, .int x4)]) (st' := []) [.iconst (-1), .istore 5, .iconst 0, .istore 6, .iload_n 2, .istore 7] (by decide +kernel) rfl ?_
  refine zV_pick (lo2 := [(0, .ref a0), (1, .ref a1), (3, .int x3), (4, .int x4), (5, .int (-1)), (6, .int 0), (7, .int x2)]) [3, 4, 6, 7, 2, 1, 0] rfl ?_
  exact ck_lonelyLeaps_9L s0 D cB cI cJ cD n x0 x1 x3 x4 a0 a1 n ((-1), 0, x2) ho0 ho1 h hQ

def k_farthestStarts_57 (n : Nat) (x0 : vDes) (x1 : vDes) (x3 : Int32) (x4 : Int32) (x5 : Int64) (x7 : Int64) (x9 : Int64) (x11 : Int32) (x12 : Int32) : Option ((Int64 × Int64 × Int64 × Int32 × Int32) ⊕ (Int64)) := (k_daysOf n x0 x12).bind (fun v1 => (k_daysOf n x1 x12).bind (fun v9 => some (.inl ((x5 + (v1 : Int32).toInt64), (x7 + (v9 : Int32).toInt64), x9, x11, (x12 + 1)))))
set_option maxHeartbeats 4000000 in
set_option maxRecDepth 100000 in
theorem ck_farthestStarts_57 (s0 : State) (D : va_G) (cB cI cJ cD : ClassId) (n : Nat) (x0 : vDes) (x1 : vDes) (x3 : Int32) (x4 : Int32) (x5 : Int64) (x7 : Int64) (x9 : Int64) (x11 : Int32) (x12 : Int32) (a0 : Nat) (a1 : Nat) {x : (Int64 × Int64 × Int64 × Int32 × Int32) ⊕ (Int64)} {hi hm : zHp} {nx : Nat} {Q : Option Value → zHp → zHp → Nat → Prop} (ho0 : iDes cI hi a0 x0) (ho1 : iDes cI hi a1 x1) (h : k_farthestStarts_57 n x0 x1 x3 x4 x5 x7 x9 x11 x12 = some x) (hL25 : ∀ s : Int64 × Int64 × Int64 × Int32 × Int32, x = (.inl s) → zV s0 D (zty cB cI cJ cD) yX11_farthestStarts cX11_farthestStarts 15 (some .long) 3 67 0 0 25 [(0, .ref a0), (1, .ref a1), (3, .int x3), (4, .int x4), (5, .long s.1), (7, .long s.2.1), (9, .long s.2.2.1), (11, .int s.2.2.2.1), (12, .int s.2.2.2.2)] [] hi hm nx Q) (hQ : ∀ r : Int64, x = (.inr r) → Q (some (.long r)) hi hm nx) : zV s0 D (zty cB cI cJ cD) yX11_farthestStarts cX11_farthestStarts 15 (some .long) 3 67 0 0 57 [(0, .ref a0), (1, .ref a1), (3, .int x3), (4, .int x4), (5, .long x5), (7, .long x7), (9, .long x9), (11, .int x11), (12, .int x12)] [] hi hm nx Q := by
  unfold k_farthestStarts_57 at h
  refine zV_blk (pc' := 62) (lo' := [(0, .ref a0), (1, .ref a1), (3, .int x3), (4, .int x4), (5, .long x5), (7, .long x7), (9, .long x9), (11, .int x11), (12, .int x12)]) (st' := [.int x12, .ref a0, .long x5]) [.lload 5, .aload_n 0, .iload 12] (by decide +kernel) rfl ?_
  obtain ⟨v1, hv1, h⟩ := zbind h
  obtain ⟨b2, b3, b4, hc5, hc6, hc7, hc8⟩ := ho0
  refine zV_roV (idx := 233) (rest := [.long x5]) (fs := [.ref b2, .ref b3, .ref b4]) (ci := 0) (fun Q2 hQ2 => ck_daysOf s0 D cB cI cJ cD n x0 x12 a0 v1 hv1 ⟨b2, b3, b4, hc5, hc6, hc7, hc8⟩ hQ2) oX0_daysOf (Or.inl hc5) rfl (zT_mem 1041 (by decide +kernel) rfl) (zT_mem 1042 (by decide +kernel) rfl) (zT_mem 1043 (by decide +kernel) rfl) rfl rfl (Nat.le_of_ble_eq_true rfl) ⟨by decide, by decide⟩ (by decide +kernel) ?_
  refine zV_eq (st2 := [.int v1, .long x5]) rfl rfl rfl rfl ?_
  refine zV_blk (pc' := 74) (lo' := [(5, .long (x5 + (v1 : Int32).toInt64)), (0, .ref a0), (1, .ref a1), (3, .int x3), (4, .int x4), (7, .long x7), (9, .long x9), (11, .int x11), (12, .int x12)]) (st' := [.int x12, .ref a1, .long x7]) [.i2l, .ladd, .lstore 5, .lload 7, .aload_n 1, .iload 12] (by decide +kernel) rfl ?_
  obtain ⟨v9, hv9, h⟩ := zbind h
  obtain ⟨b10, b11, b12, hc13, hc14, hc15, hc16⟩ := ho1
  refine zV_roV (idx := 233) (rest := [.long x7]) (fs := [.ref b10, .ref b11, .ref b12]) (ci := 0) (fun Q2 hQ2 => ck_daysOf s0 D cB cI cJ cD n x1 x12 a1 v9 hv9 ⟨b10, b11, b12, hc13, hc14, hc15, hc16⟩ hQ2) oX0_daysOf (Or.inl hc13) rfl (zT_mem 1041 (by decide +kernel) rfl) (zT_mem 1042 (by decide +kernel) rfl) (zT_mem 1043 (by decide +kernel) rfl) rfl rfl (Nat.le_of_ble_eq_true rfl) ⟨by decide, by decide⟩ (by decide +kernel) ?_
  refine zV_eq (st2 := [.int v9, .long x7]) rfl rfl rfl rfl ?_
  refine zV_blk (pc' := 84) (lo' := [(12, .int (x12 + 1)), (7, .long (x7 + (v9 : Int32).toInt64)), (5, .long (x5 + (v1 : Int32).toInt64)), (0, .ref a0), (1, .ref a1), (3, .int x3), (4, .int x4), (9, .long x9), (11, .int x11)]) (st' := []) [.i2l, .ladd, .lstore 7, .iinc 12 1] (by decide +kernel) rfl ?_
  refine zV_goto (tgt := 25) (off := -59) (by decide +kernel) (by decide) ?_
  obtain rfl := Option.some.inj h
  refine zV_pick (lo2 := [(0, .ref a0), (1, .ref a1), (3, .int x3), (4, .int x4), (5, .long (x5 + (v1 : Int32).toInt64)), (7, .long (x7 + (v9 : Int32).toInt64)), (9, .long x9), (11, .int x11), (12, .int (x12 + 1))]) [3, 4, 5, 6, 2, 1, 7, 8, 0] rfl ?_
  exact hL25 _ rfl
def k_farthestStarts_25 (n : Nat) (x0 : vDes) (x1 : vDes) (x3 : Int32) (x4 : Int32) (s : Int64 × Int64 × Int64 × Int32 × Int32) : Option ((Int64 × Int64 × Int64 × Int32 × Int32) ⊕ (Int64)) := (if (x3 : Int32) < (s.2.2.2.2 : Int32) then (if (x4 : Int32) = (2 : Int32) then some (.inr s.2.2.1) else some (.inr (s.2.2.2.1 : Int32).toInt64)) else (j_abs (s.1 - s.2.1)).bind (fun v1 => (if (v1 : Int64) ≤ (s.2.2.1 : Int64) then (k_farthestStarts_57 n x0 x1 x3 x4 s.1 s.2.1 s.2.2.1 s.2.2.2.1 s.2.2.2.2 ) else (k_farthestStarts_57 n x0 x1 x3 x4 s.1 s.2.1 v1 s.2.2.2.2 s.2.2.2.2 ))))
set_option maxHeartbeats 4000000 in
set_option maxRecDepth 100000 in
theorem ck_farthestStarts_25 (s0 : State) (D : va_G) (cB cI cJ cD : ClassId) (n : Nat) (x0 : vDes) (x1 : vDes) (x3 : Int32) (x4 : Int32) (a0 : Nat) (a1 : Nat) (s : Int64 × Int64 × Int64 × Int32 × Int32) {x : (Int64 × Int64 × Int64 × Int32 × Int32) ⊕ (Int64)} {hi hm : zHp} {nx : Nat} {Q : Option Value → zHp → zHp → Nat → Prop} (ho0 : iDes cI hi a0 x0) (ho1 : iDes cI hi a1 x1) (h : k_farthestStarts_25 n x0 x1 x3 x4 s = some x) (hL25 : ∀ s : Int64 × Int64 × Int64 × Int32 × Int32, x = (.inl s) → zV s0 D (zty cB cI cJ cD) yX11_farthestStarts cX11_farthestStarts 15 (some .long) 3 67 0 0 25 [(0, .ref a0), (1, .ref a1), (3, .int x3), (4, .int x4), (5, .long s.1), (7, .long s.2.1), (9, .long s.2.2.1), (11, .int s.2.2.2.1), (12, .int s.2.2.2.2)] [] hi hm nx Q) (hQ : ∀ r : Int64, x = (.inr r) → Q (some (.long r)) hi hm nx) : zV s0 D (zty cB cI cJ cD) yX11_farthestStarts cX11_farthestStarts 15 (some .long) 3 67 0 0 25 [(0, .ref a0), (1, .ref a1), (3, .int x3), (4, .int x4), (5, .long s.1), (7, .long s.2.1), (9, .long s.2.2.1), (11, .int s.2.2.2.1), (12, .int s.2.2.2.2)] [] hi hm nx Q := by
  unfold k_farthestStarts_25 at h
  refine zV_blk (pc' := 28) (lo' := [(0, .ref a0), (1, .ref a1), (3, .int x3), (4, .int x4), (5, .long s.1), (7, .long s.2.1), (9, .long s.2.2.1), (11, .int s.2.2.2.1), (12, .int s.2.2.2.2)]) (st' := [.int x3, .int s.2.2.2.2]) [.iload 12, .iload_n 3] (by decide +kernel) rfl ?_
  refine zV_icmp_gt (tgt := 87) (off := 59) (by decide +kernel) (by decide) (fun q => ?_) (fun q => ?_)
  · replace h := zif_pos q h
    clear q
    refine zV_blk (pc' := 90) (lo' := [(0, .ref a0), (1, .ref a1), (3, .int x3), (4, .int x4), (5, .long s.1), (7, .long s.2.1), (9, .long s.2.2.1), (11, .int s.2.2.2.1), (12, .int s.2.2.2.2)]) (st' := [.int 2, .int x4]) [.iload 4, .iconst 2] (by decide +kernel) rfl ?_
    refine zV_icmp_ne (tgt := 98) (off := 8) (by decide +kernel) (by decide) (fun q => ?_) (fun q => ?_)
    · replace h := zif_neg q h
      clear q
      refine zV_blk (pc' := 101) (lo' := [(0, .ref a0), (1, .ref a1), (3, .int x3), (4, .int x4), (5, .long s.1), (7, .long s.2.1), (9, .long s.2.2.1), (11, .int s.2.2.2.1), (12, .int s.2.2.2.2)]) (st' := [.long (s.2.2.2.1 : Int32).toInt64]) [.iload 11, .i2l] (by decide +kernel) rfl ?_
      obtain rfl := Option.some.inj h
      exact zV_lret rfl (by decide +kernel) (hQ _ rfl)
    · replace h := zif_pos q h
      clear q
      refine zV_blk (pc' := 95) (lo' := [(0, .ref a0), (1, .ref a1), (3, .int x3), (4, .int x4), (5, .long s.1), (7, .long s.2.1), (9, .long s.2.2.1), (11, .int s.2.2.2.1), (12, .int s.2.2.2.2)]) (st' := [.long s.2.2.1]) [.lload 9] (by decide +kernel) rfl ?_
      refine zV_goto (tgt := 101) (off := 6) (by decide +kernel) (by decide) ?_
      obtain rfl := Option.some.inj h
      exact zV_lret rfl (by decide +kernel) (hQ _ rfl)
  · replace h := zif_neg q h
    clear q
    refine zV_blk (pc' := 36) (lo' := [(0, .ref a0), (1, .ref a1), (3, .int x3), (4, .int x4), (5, .long s.1), (7, .long s.2.1), (9, .long s.2.2.1), (11, .int s.2.2.2.1), (12, .int s.2.2.2.2)]) (st' := [.long (s.1 - s.2.1)]) [.lload 5, .lload 7, .lsub] (by decide +kernel) rfl ?_
    obtain ⟨v1, hv1, h⟩ := zbind h
    refine zV_roS (idx := 294) (rest := []) (fun Q2 hQ2 => cj_abs s0 D cB cI cJ cD (s.1 - s.2.1)  v1 hv1  hQ2) oJ9_abs_067f4 (zT_mem 1183 (by decide +kernel) rfl) (zT_mem 693 (by decide +kernel) rfl) rfl rfl (Nat.le_of_ble_eq_true rfl) ⟨by decide, by decide⟩ (by decide +kernel) ?_
    refine zV_eq (st2 := [.long v1]) rfl rfl rfl rfl ?_
    refine zV_blk (pc' := 46) (lo' := [(13, .long v1), (0, .ref a0), (1, .ref a1), (3, .int x3), (4, .int x4), (5, .long s.1), (7, .long s.2.1), (9, .long s.2.2.1), (11, .int s.2.2.2.1), (12, .int s.2.2.2.2)]) (st' := [.int (lg_cmp v1 s.2.2.1)]) [.lstore 13, .lload 13, .lload 9, .lcmp] (by decide +kernel) rfl ?_
    refine zV_lcmp_le (tgt := 57) (off := 11) (by decide +kernel) (by decide) (fun q => ?_) (fun q => ?_)
    · replace h := zif_pos q h
      clear q
      refine zV_pick (lo2 := [(0, .ref a0), (1, .ref a1), (3, .int x3), (4, .int x4), (5, .long s.1), (7, .long s.2.1), (9, .long s.2.2.1), (11, .int s.2.2.2.1), (12, .int s.2.2.2.2)]) [1, 2, 3, 4, 5, 6, 7, 8, 9] rfl ?_
      exact ck_farthestStarts_57 s0 D cB cI cJ cD n x0 x1 x3 x4 s.1 s.2.1 s.2.2.1 s.2.2.2.1 s.2.2.2.2  a0 a1 ho0 ho1 h hL25 hQ
    · replace h := zif_neg q h
      clear q
      refine zV_blk (pc' := 57) (lo' := [(11, .int s.2.2.2.2), (9, .long v1), (13, .long v1), (0, .ref a0), (1, .ref a1), (3, .int x3), (4, .int x4), (5, .long s.1), (7, .long s.2.1), (12, .int s.2.2.2.2)]) (st' := []) [.lload 13, .lstore 9, .iload 12, .istore 11] (by decide +kernel) rfl ?_
      refine zV_pick (lo2 := [(0, .ref a0), (1, .ref a1), (3, .int x3), (4, .int x4), (5, .long s.1), (7, .long s.2.1), (9, .long v1), (11, .int s.2.2.2.2), (12, .int s.2.2.2.2)]) [3, 4, 5, 6, 7, 8, 1, 0, 9] rfl ?_
      exact ck_farthestStarts_57 s0 D cB cI cJ cD n x0 x1 x3 x4 s.1 s.2.1 v1 s.2.2.2.2 s.2.2.2.2  a0 a1 ho0 ho1 h hL25 hQ
theorem ck_farthestStarts_25L (s0 : State) (D : va_G) (cB cI cJ cD : ClassId) (n : Nat) (x0 : vDes) (x1 : vDes) (x3 : Int32) (x4 : Int32) (a0 : Nat) (a1 : Nat) : ∀ (k : Nat) (s : Int64 × Int64 × Int64 × Int32 × Int32) {hi hm : zHp} {nx : Nat} {Q : Option Value → zHp → zHp → Nat → Prop} (ho0 : iDes cI hi a0 x0) (ho1 : iDes cI hi a1 x1) {x : Int64} (_ : zloop (k_farthestStarts_25 n x0 x1 x3 x4) k s = some x) (hQ : ∀ r : Int64, x = r → Q (some (.long r)) hi hm nx), zV s0 D (zty cB cI cJ cD) yX11_farthestStarts cX11_farthestStarts 15 (some .long) 3 67 0 0 25 [(0, .ref a0), (1, .ref a1), (3, .int x3), (4, .int x4), (5, .long s.1), (7, .long s.2.1), (9, .long s.2.2.1), (11, .int s.2.2.2.1), (12, .int s.2.2.2.2)] [] hi hm nx Q
  | 0, s, _, _, _, _, _, _, _, h, _ => by cases h
  | k + 1, s, hi, hm, nx, Q, ho0, ho1, x, h, hQ => by
    obtain ⟨z, hz, h1, h2⟩ := zloop_succ h
    exact ck_farthestStarts_25 s0 D cB cI cJ cD n x0 x1 x3 x4 a0 a1 s ho0 ho1 hz (fun s' hs => ck_farthestStarts_25L s0 D cB cI cJ cD n x0 x1 x3 x4 a0 a1 k s' ho0 ho1 (h1 s' hs) hQ) (fun r hr => hQ r (h2 _ hr).symm)
def k_farthestStarts (n : Nat) (x0 : vDes) (x1 : vDes) (x2 : Int32) (x3 : Int32) (x4 : Int32) : Option (Int64) := (k_startOf n x0 x2).bind (fun v1 => (k_startOf n x1 x2).bind (fun v9 => (zloop (k_farthestStarts_25 n x0 x1 x3 x4) n (v1, v9, (-1), x2, x2))))
theorem oX11_farthestStarts : zO yX11_farthestStarts cX11_farthestStarts 15 (some .long) 5 := ⟨zT_mem 1394 (by decide +kernel) rfl, zT_mem 89 (by decide +kernel) rfl, by decide +kernel, by decide +kernel, by decide +kernel⟩
set_option maxHeartbeats 4000000 in
set_option maxRecDepth 100000 in
theorem ck_farthestStarts (s0 : State) (D : va_G) (cB cI cJ cD : ClassId) (n : Nat) (x0 : vDes) (x1 : vDes) (x2 : Int32) (x3 : Int32) (x4 : Int32) (a0 : Nat) (a1 : Nat) (x : Int64) (h : k_farthestStarts n x0 x1 x2 x3 x4 = some x) {hi hm : zHp} {nx : Nat} {Q : Option Value → zHp → zHp → Nat → Prop} (ho0 : iDes cI hi a0 x0) (ho1 : iDes cI hi a1 x1) (hQ0 : Q (some (.long x)) hi hm nx) : zM s0 D (zty cB cI cJ cD) yX11_farthestStarts cX11_farthestStarts 15 (some .long) 3 67 0 0 [.ref a0, .ref a1, .int x2, .int x3, .int x4] hi hm nx Q := by
  have hQ : ∀ r : Int64, x = r → Q (some (.long r)) hi hm nx := fun r hr => by subst hr; exact hQ0
  clear hQ0
  refine zM_of (by decide +kernel) (Nat.le_of_ble_eq_true rfl) ?_
  unfold k_farthestStarts at h
  refine zV_eq (lo2 := [(0, .ref a0), (1, .ref a1), (2, .int x2), (3, .int x3), (4, .int x4)]) rfl rfl rfl rfl ?_
  refine zV_blk (pc' := 2) (lo' := [(0, .ref a0), (1, .ref a1), (2, .int x2), (3, .int x3), (4, .int x4)]) (st' := [.int x2, .ref a0]) [.aload_n 0, .iload_n 2] (by decide +kernel) rfl ?_
  obtain ⟨v1, hv1, h⟩ := zbind h
  obtain ⟨b2, b3, b4, hc5, hc6, hc7, hc8⟩ := ho0
  refine zV_roV (idx := 230) (rest := []) (fs := [.ref b2, .ref b3, .ref b4]) (ci := 0) (fun Q2 hQ2 => ck_startOf s0 D cB cI cJ cD n x0 x2 a0 v1 hv1 ⟨b2, b3, b4, hc5, hc6, hc7, hc8⟩ hQ2) oX0_startOf (Or.inl hc5) rfl (zT_mem 1036 (by decide +kernel) rfl) (zT_mem 719 (by decide +kernel) rfl) (zT_mem 720 (by decide +kernel) rfl) rfl rfl (Nat.le_of_ble_eq_true rfl) ⟨by decide, by decide⟩ (by decide +kernel) ?_
  refine zV_eq (st2 := [.long v1]) rfl rfl rfl rfl ?_
  refine zV_blk (pc' := 9) (lo' := [(5, .long v1), (0, .ref a0), (1, .ref a1), (2, .int x2), (3, .int x3), (4, .int x4)]) (st' := [.int x2, .ref a1]) [.lstore 5, .aload_n 1, .iload_n 2] (by decide +kernel) rfl ?_
  obtain ⟨v9, hv9, h⟩ := zbind h
  obtain ⟨b10, b11, b12, hc13, hc14, hc15, hc16⟩ := ho1
  refine zV_roV (idx := 230) (rest := []) (fs := [.ref b10, .ref b11, .ref b12]) (ci := 0) (fun Q2 hQ2 => ck_startOf s0 D cB cI cJ cD n x1 x2 a1 v9 hv9 ⟨b10, b11, b12, hc13, hc14, hc15, hc16⟩ hQ2) oX0_startOf (Or.inl hc13) rfl (zT_mem 1036 (by decide +kernel) rfl) (zT_mem 719 (by decide +kernel) rfl) (zT_mem 720 (by decide +kernel) rfl) rfl rfl (Nat.le_of_ble_eq_true rfl) ⟨by decide, by decide⟩ (by decide +kernel) ?_
  refine zV_eq (st2 := [.long v9]) rfl rfl rfl rfl ?_
  refine zV_blk (pc' := 14) (lo' := [(7, .long v9), (5, .long v1), (0, .ref a0), (1, .ref a1), (2, .int x2), (3, .int x3), (4, .int x4)]) (st' := []) [.lstore 7] (by decide +kernel) rfl ?_
  refine zV_ldc2 (idx := 349) (v := (-1)) (zT_mem 1283 (by decide +kernel) rfl) (by decide +kernel) ?_
  refine zV_blk (pc' := 25) (lo' := [(12, .int x2), (11, .int x2), (9, .long (-1)), (7, .long v9), (5, .long v1), (0, .ref a0), (1, .ref a1), (2, .int x2), (3, .int x3), (4, .int x4)]) (st' := []) [.lstore 9, .iload_n 2, .istore 11, .iload_n 2, .istore 12] (by decide +kernel) rfl ?_
  refine zV_pick (lo2 := [(0, .ref a0), (1, .ref a1), (3, .int x3), (4, .int x4), (5, .long v1), (7, .long v9), (9, .long (-1)), (11, .int x2), (12, .int x2)]) [5, 6, 8, 9, 4, 3, 2, 1, 0] rfl ?_
  exact ck_farthestStarts_25L s0 D cB cI cJ cD n x0 x1 x3 x4 a0 a1 n (v1, v9, (-1), x2, x2) ⟨b2, b3, b4, hc5, hc6, hc7, hc8⟩ ⟨b10, b11, b12, hc13, hc14, hc15, hc16⟩ h hQ

def k_evenNumber (x0 : vLaw) (x1 : Int32) : Option (Int32) := zEv x0 (fun e1 => (if (x1 : Int32) = 9 then some e1.1 else (if (x1 : Int32) = 10 then some e1.2.1 else (if (x1 : Int32) = 11 then some e1.2.2 else some (-1))))) (some (-1))
theorem oX11_evenNumber : zO yX11_evenNumber cX11_evenNumber 3 (some .int) 2 := ⟨zT_mem 654 (by decide +kernel) rfl, zT_mem 89 (by decide +kernel) rfl, by decide +kernel, by decide +kernel, by decide +kernel⟩
set_option maxHeartbeats 4000000 in
set_option maxRecDepth 100000 in
theorem ck_evenNumber (s0 : State) (D : va_G) (cB cI cJ cD : ClassId) (x0 : vLaw) (x1 : Int32) (a0 : Nat) (x : Int32) (h : k_evenNumber x0 x1 = some x) {hi hm : zHp} {nx : Nat} {Q : Option Value → zHp → zHp → Nat → Prop} (ho0 : iLaw cI hi a0 x0) (hQ0 : Q (some (.int x)) hi hm nx) : zM s0 D (zty cB cI cJ cD) yX11_evenNumber cX11_evenNumber 3 (some .int) 0 0 0 0 [.ref a0, .int x1] hi hm nx Q := by
  have hQ : ∀ r : Int32, x = r → Q (some (.int r)) hi hm nx := fun r hr => by subst hr; exact hQ0
  clear hQ0
  refine zM_of (by decide +kernel) (Nat.le_of_ble_eq_true rfl) ?_
  unfold k_evenNumber at h
  refine zV_eq (lo2 := [(0, .ref a0), (1, .int x1)]) rfl rfl rfl rfl ?_
  refine zV_blk (pc' := 1) (lo' := [(0, .ref a0), (1, .int x1)]) (st' := [.ref a0]) [.aload_n 0] (by decide +kernel) rfl ?_
  generalize x0 = g2 at h ho0
  rcases g2 with ⟨⟩ | e1 | g2 | g2
  · have hk := ho0
    refine zV_instNo (ci := 6) (idx := 143) (nm := "LeapDesigner$EvenLaw") (Or.inl hk) rfl (zT_mem 655 (by decide +kernel) rfl) (by decide +kernel) (by decide +kernel) ?_
    refine zV_if_eq (tgt := 15) (off := 11) (by decide +kernel) (by decide) (fun _ => ?_) (fun q => absurd q (by decide))
    refine zV_blk (pc' := 16) (lo' := [(0, .ref a0), (1, .int x1)]) (st' := [.int (-1)]) [.iconst (-1)] (by decide +kernel) rfl ?_
    obtain rfl := Option.some.inj h
    exact zV_iret rfl (by decide +kernel) (hQ _ rfl)
  · replace h : _ = some x := h
    refine zV_instY (ci := 1) (idx := 143) (fs := [.int e1.1, .int e1.2.1, .int e1.2.2]) (Or.inl ho0) rfl (zT_mem 655 (by decide +kernel) rfl) (by decide +kernel) ?_
    refine zV_if_eq (tgt := 15) (off := 11) (by decide +kernel) (by decide) (fun q => absurd q (by decide +kernel)) (fun _ => ?_)
    refine zV_blk (pc' := 8) (lo' := [(0, .ref a0), (1, .int x1)]) (st' := [.ref a0]) [.aload_n 0] (by decide +kernel) rfl ?_
    refine zV_castY (ci := 1) (idx := 143) (fs := [.int e1.1, .int e1.2.1, .int e1.2.2]) (Or.inl ho0) rfl (zT_mem 655 (by decide +kernel) rfl) (by decide +kernel) ?_
    refine zV_blk (pc' := 12) (lo' := [(2, .ref a0), (0, .ref a0), (1, .int x1)]) (st' := []) [.astore_n 2] (by decide +kernel) rfl ?_
    refine zV_goto (tgt := 17) (off := 5) (by decide +kernel) (by decide) ?_
    refine zV_blk (pc' := 18) (lo' := [(2, .ref a0), (0, .ref a0), (1, .int x1)]) (st' := [.int x1]) [.iload_n 1] (by decide +kernel) rfl ?_
    by_cases q3 : (x1 : Int32) = 9
    · replace h := zif_pos q3 h
      refine zV_tin (tgt := 44) (off := 26) (dflt := 41) (l1 := 9) (h1 := 11) (offs := #[26, 31, 36]) (len := 26) 9 q3 (by decide +kernel) (by decide +kernel) (by decide +kernel) (by decide +kernel) (by decide) ?_
      refine zV_blk (pc' := 45) (lo' := [(2, .ref a0), (0, .ref a0), (1, .int x1)]) (st' := [.ref a0]) [.aload_n 2] (by decide +kernel) rfl ?_
      refine zV_get (ci := 1) (idx := 145) (k := 0) (N := 3) (fs := [.int e1.1, .int e1.2.1, .int e1.2.2]) (v := .int e1.1) (Or.inl ho0) rfl z_in1 (by decide) (zT_mem 439 (by decide +kernel) rfl) rfl (by decide +kernel) ?_
      obtain rfl := Option.some.inj h
      exact zV_iret rfl (by decide +kernel) (hQ _ rfl)
    · replace h := zif_neg q3 h
      by_cases q4 : (x1 : Int32) = 10
      · replace h := zif_pos q4 h
        refine zV_tin (tgt := 49) (off := 31) (dflt := 41) (l1 := 9) (h1 := 11) (offs := #[26, 31, 36]) (len := 26) 10 q4 (by decide +kernel) (by decide +kernel) (by decide +kernel) (by decide +kernel) (by decide) ?_
        refine zV_blk (pc' := 50) (lo' := [(2, .ref a0), (0, .ref a0), (1, .int x1)]) (st' := [.ref a0]) [.aload_n 2] (by decide +kernel) rfl ?_
        refine zV_get (ci := 1) (idx := 148) (k := 1) (N := 3) (fs := [.int e1.1, .int e1.2.1, .int e1.2.2]) (v := .int e1.2.1) (Or.inl ho0) rfl z_in1 (by decide) (zT_mem 441 (by decide +kernel) rfl) rfl (by decide +kernel) ?_
        obtain rfl := Option.some.inj h
        exact zV_iret rfl (by decide +kernel) (hQ _ rfl)
      · replace h := zif_neg q4 h
        by_cases q5 : (x1 : Int32) = 11
        · replace h := zif_pos q5 h
          refine zV_tin (tgt := 54) (off := 36) (dflt := 41) (l1 := 9) (h1 := 11) (offs := #[26, 31, 36]) (len := 26) 11 q5 (by decide +kernel) (by decide +kernel) (by decide +kernel) (by decide +kernel) (by decide) ?_
          refine zV_blk (pc' := 55) (lo' := [(2, .ref a0), (0, .ref a0), (1, .int x1)]) (st' := [.ref a0]) [.aload_n 2] (by decide +kernel) rfl ?_
          refine zV_get (ci := 1) (idx := 151) (k := 2) (N := 3) (fs := [.int e1.1, .int e1.2.1, .int e1.2.2]) (v := .int e1.2.2) (Or.inl ho0) rfl z_in1 (by decide) (zT_mem 443 (by decide +kernel) rfl) rfl (by decide +kernel) ?_
          obtain rfl := Option.some.inj h
          exact zV_iret rfl (by decide +kernel) (hQ _ rfl)
        · replace h := zif_neg q5 h
          refine zV_tout (tgt := 59) (dflt := 41) (l1 := 9) (h1 := 11) (offs := #[26, 31, 36]) (len := 26) (by have nq3 := zne 9 9 (by decide +kernel) q3; have nq4 := zne 10 10 (by decide +kernel) q4; have nq5 := zne 11 11 (by decide +kernel) q5; omega) (by decide +kernel) (by decide) ?_
          refine zV_blk (pc' := 60) (lo' := [(2, .ref a0), (0, .ref a0), (1, .int x1)]) (st' := [.int (-1)]) [.iconst (-1)] (by decide +kernel) rfl ?_
          obtain rfl := Option.some.inj h
          exact zV_iret rfl (by decide +kernel) (hQ _ rfl)
  · have hk := ho0
    obtain ⟨_, hk, _⟩ := hk
    refine zV_instNo (ci := 5) (idx := 143) (nm := "LeapDesigner$EvenLaw") (Or.inl hk) rfl (zT_mem 655 (by decide +kernel) rfl) (by decide +kernel) (by decide +kernel) ?_
    refine zV_if_eq (tgt := 15) (off := 11) (by decide +kernel) (by decide) (fun _ => ?_) (fun q => absurd q (by decide))
    refine zV_blk (pc' := 16) (lo' := [(0, .ref a0), (1, .int x1)]) (st' := [.int (-1)]) [.iconst (-1)] (by decide +kernel) rfl ?_
    obtain rfl := Option.some.inj h
    exact zV_iret rfl (by decide +kernel) (hQ _ rfl)
  · have hk := ho0
    obtain ⟨_, hk, _⟩ := hk
    refine zV_instNo (ci := 8) (idx := 143) (nm := "LeapDesigner$EvenLaw") (Or.inl hk) rfl (zT_mem 655 (by decide +kernel) rfl) (by decide +kernel) (by decide +kernel) ?_
    refine zV_if_eq (tgt := 15) (off := 11) (by decide +kernel) (by decide) (fun _ => ?_) (fun q => absurd q (by decide))
    refine zV_blk (pc' := 16) (lo' := [(0, .ref a0), (1, .int x1)]) (st' := [.int (-1)]) [.iconst (-1)] (by decide +kernel) rfl ?_
    obtain rfl := Option.some.inj h
    exact zV_iret rfl (by decide +kernel) (hQ _ rfl)

