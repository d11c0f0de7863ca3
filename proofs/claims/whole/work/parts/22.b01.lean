def w_goOn_44 (n : Nat) (bo : Option (Nat → Int32)) (x1 : vLaw) (x3 : Int32) (x4 : Int32) : Option (Int32) := (d_isLeap n x1 x4).bind (fun v1 => (if ((zb v1) : Int32) = (x3 : Int32) then some (x4 + 1) else some x4))
set_option maxHeartbeats 4000000 in
set_option maxRecDepth 100000 in
theorem cw_goOn_44 (s0 : State) (D : va_G) (X : Nat → Prop) (cB cI cJ cD : ClassId) (al l1 l2 l3 l4 l5 : Nat) (A : Nat → Int32) (tp : Nat → Int32) (dv : Nat → Option vDes) (cs : Nat → Int32) (cv : Nat → Option vDes) (jv : Option vJoint) (bo : Option (Nat → Int32)) (hg : Option (Nat → Int64)) (lw : Option (Nat → Int64)) (sb : vSB) (n : Nat) (x1 : vLaw) (x3 : Int32) (x4 : Int32) (a1 : Nat) {x : Int32} {hi0 hi hm0 hm : zHp} {nx : Nat} {Q : Option Value → zHp → zHp → Nat → Prop} (hW : lW X cB cI cJ cD al l1 l2 l3 l4 l5 A tp dv cs cv jv bo hg lw sb hi hm) (ho1 : iLaw cI hi a1 x1) (hXX : zX hi0 hi) (hFr : lFr X hm0 hm) (h : w_goOn_44 n bo x1 x3 x4 = some x) (hQ : ∀ r : Int32, x = r → ∀ (hi' hm' : zHp) (nx' : Nat), zX hi0 hi' → lW X cB cI cJ cD al l1 l2 l3 l4 l5 A tp dv cs cv jv bo hg lw sb hi' hm' → lFr X hm0 hm' → Q (some (.int r)) hi' hm' nx') : zV s0 D (zty cB cI cJ cD) yX11_goOn cX11_goOn 6 (some .int) 2 44 0 0 44 [(1, .ref a1), (3, .int x3), (4, .int x4)] [] hi hm nx Q := by
  unfold w_goOn_44 at h
  refine zV_blk (pc' := 47) (lo' := [(1, .ref a1), (3, .int x3), (4, .int x4)]) (st' := [.int x4, .ref a1]) [.aload_n 1, .iload 4] (by decide +kernel) rfl ?_
  obtain ⟨v1, hv1, h⟩ := zbind h
  refine dc_isLeap s0 D cB cI cJ cD (idx := 223) n x1 x4 a1 v1 hv1 ho1 (zT_mem 1014 (by decide +kernel) rfl) (rest := []) rfl (Nat.le_of_ble_eq_true rfl) ⟨by decide, by decide⟩ (by decide +kernel) ?_
  refine zV_eq (st2 := [.int (zb v1)]) rfl rfl rfl rfl ?_
  refine zV_blk (pc' := 51) (lo' := [(1, .ref a1), (3, .int x3), (4, .int x4)]) (st' := [.int x3, .int (zb v1)]) [.iload_n 3] (by decide +kernel) rfl ?_
  refine zV_icmp_ne (tgt := 61) (off := 10) (by decide +kernel) (by decide) (fun q => ?_) (fun q => ?_)
  · replace h := zif_neg q h
    clear q
    refine zV_blk (pc' := 63) (lo' := [(1, .ref a1), (3, .int x3), (4, .int x4)]) (st' := [.int x4]) [.iload 4] (by decide +kernel) rfl ?_
    obtain rfl := Option.some.inj h
    exact zV_iret rfl (by decide +kernel) (hQ _ rfl _ _ _ hXX hW hFr)
  · replace h := zif_pos q h
    clear q
    refine zV_blk (pc' := 58) (lo' := [(1, .ref a1), (3, .int x3), (4, .int x4)]) (st' := [.int (x4 + 1)]) [.iload 4, .iconst 1, .iadd] (by decide +kernel) rfl ?_
    refine zV_goto (tgt := 63) (off := 5) (by decide +kernel) (by decide) ?_
    obtain rfl := Option.some.inj h
    exact zV_iret rfl (by decide +kernel) (hQ _ rfl _ _ _ hXX hW hFr)
def w_goOn_6 (n : Nat) (bo : Option (Nat → Int32)) (x1 : vLaw) (x2 : Int32) (x3 : Int32) (s : Int32 × Int32) : Option ((Int32 × Int32) ⊕ (Int32)) := (if (x2 : Int32) ≤ (s.2 : Int32) then ((w_goOn_44 n bo x1 x3 s.1 ).map (fun z => .inr z)) else (if (s.1 : Int32) ≤ (0 : Int32) then ((w_goOn_44 n bo x1 x3 s.1 ).map (fun z => .inr z)) else (d_isLeap n x1 s.1).bind (fun v3 => (if ((zb v3) : Int32) = (x3 : Int32) then ((w_goOn_44 n bo x1 x3 s.1 ).map (fun z => .inr z)) else zOm (bo) (none) (fun z6 => zck (zin ((s.1 - 1)) 9999) (some (.inl ((z6 ((s.1 - 1) : Int32).toNatClampNeg), (s.2 + 1)))))))))
set_option maxHeartbeats 4000000 in
set_option maxRecDepth 100000 in
theorem cw_goOn_6 (s0 : State) (D : va_G) (X : Nat → Prop) (cB cI cJ cD : ClassId) (al l1 l2 l3 l4 l5 : Nat) (A : Nat → Int32) (tp : Nat → Int32) (dv : Nat → Option vDes) (cs : Nat → Int32) (cv : Nat → Option vDes) (jv : Option vJoint) (bo : Option (Nat → Int32)) (hg : Option (Nat → Int64)) (lw : Option (Nat → Int64)) (sb : vSB) (n : Nat) (x1 : vLaw) (x2 : Int32) (x3 : Int32) (a1 : Nat) (s : Int32 × Int32) {x : (Int32 × Int32) ⊕ (Int32)} {hi0 hi hm0 hm : zHp} {nx : Nat} {Q : Option Value → zHp → zHp → Nat → Prop} (hW : lW X cB cI cJ cD al l1 l2 l3 l4 l5 A tp dv cs cv jv bo hg lw sb hi hm) (ho1 : iLaw cI hi a1 x1) (hXX : zX hi0 hi) (hFr : lFr X hm0 hm) (h : w_goOn_6 n bo x1 x2 x3 s = some x) (hL6 : ∀ s : Int32 × Int32, x = (.inl s) → ∀ (hi' hm' : zHp) (nx' : Nat), zX hi0 hi' → lW X cB cI cJ cD al l1 l2 l3 l4 l5 A tp dv cs cv jv bo hg lw sb hi' hm' → lFr X hm0 hm' → zV s0 D (zty cB cI cJ cD) yX11_goOn cX11_goOn 6 (some .int) 2 44 0 0 6 [(0, .ref al), (1, .ref a1), (2, .int x2), (3, .int x3), (4, .int s.1), (5, .int s.2)] [] hi' hm' nx' Q) (hQ : ∀ r : Int32, x = (.inr r) → ∀ (hi' hm' : zHp) (nx' : Nat), zX hi0 hi' → lW X cB cI cJ cD al l1 l2 l3 l4 l5 A tp dv cs cv jv bo hg lw sb hi' hm' → lFr X hm0 hm' → Q (some (.int r)) hi' hm' nx') : zV s0 D (zty cB cI cJ cD) yX11_goOn cX11_goOn 6 (some .int) 2 44 0 0 6 [(0, .ref al), (1, .ref a1), (2, .int x2), (3, .int x3), (4, .int s.1), (5, .int s.2)] [] hi hm nx Q := by
  unfold w_goOn_6 at h
  refine zV_blk (pc' := 9) (lo' := [(0, .ref al), (1, .ref a1), (2, .int x2), (3, .int x3), (4, .int s.1), (5, .int s.2)]) (st' := [.int x2, .int s.2]) [.iload 5, .iload_n 2] (by decide +kernel) rfl ?_
  refine zV_icmp_ge (tgt := 44) (off := 35) (by decide +kernel) (by decide) (fun q => ?_) (fun q => ?_)
  · replace h := zif_pos q h
    clear q
    obtain ⟨z1, h9, hx⟩ := zmap h
    clear h; subst hx; have h := h9; clear h9
    refine zV_pick (lo2 := [(1, .ref a1), (3, .int x3), (4, .int s.1)]) [1, 3, 4] rfl ?_
    exact cw_goOn_44 s0 D X cB cI cJ cD al l1 l2 l3 l4 l5 A tp dv cs cv jv bo hg lw sb n x1 x3 s.1  a1 hW ho1 hXX hFr h (fun r hr => hQ r (by rw [hr]))
  · replace h := zif_neg q h
    clear q
    refine zV_blk (pc' := 14) (lo' := [(0, .ref al), (1, .ref a1), (2, .int x2), (3, .int x3), (4, .int s.1), (5, .int s.2)]) (st' := [.int s.1]) [.iload 4] (by decide +kernel) rfl ?_
    refine zV_if_le (tgt := 44) (off := 30) (by decide +kernel) (by decide) (fun q => ?_) (fun q => ?_)
    · replace h := zif_pos q h
      clear q
      obtain ⟨z2, h9, hx⟩ := zmap h
      clear h; subst hx; have h := h9; clear h9
      refine zV_pick (lo2 := [(1, .ref a1), (3, .int x3), (4, .int s.1)]) [1, 3, 4] rfl ?_
      exact cw_goOn_44 s0 D X cB cI cJ cD al l1 l2 l3 l4 l5 A tp dv cs cv jv bo hg lw sb n x1 x3 s.1  a1 hW ho1 hXX hFr h (fun r hr => hQ r (by rw [hr]))
    · replace h := zif_neg q h
      clear q
      refine zV_blk (pc' := 20) (lo' := [(0, .ref al), (1, .ref a1), (2, .int x2), (3, .int x3), (4, .int s.1), (5, .int s.2)]) (st' := [.int s.1, .ref a1]) [.aload_n 1, .iload 4] (by decide +kernel) rfl ?_
      obtain ⟨v3, hv3, h⟩ := zbind h
      refine dc_isLeap s0 D cB cI cJ cD (idx := 223) n x1 s.1 a1 v3 hv3 ho1 (zT_mem 1014 (by decide +kernel) rfl) (rest := []) rfl (Nat.le_of_ble_eq_true rfl) ⟨by decide, by decide⟩ (by decide +kernel) ?_
      refine zV_eq (st2 := [.int (zb v3)]) rfl rfl rfl rfl ?_
      refine zV_blk (pc' := 24) (lo' := [(0, .ref al), (1, .ref a1), (2, .int x2), (3, .int x3), (4, .int s.1), (5, .int s.2)]) (st' := [.int x3, .int (zb v3)]) [.iload_n 3] (by decide +kernel) rfl ?_
      refine zV_icmp_eq (tgt := 44) (off := 20) (by decide +kernel) (by decide) (fun q => ?_) (fun q => ?_)
      · replace h := zif_pos q h
        clear q
        obtain ⟨z4, h9, hx⟩ := zmap h
        clear h; subst hx; have h := h9; clear h9
        refine zV_pick (lo2 := [(1, .ref a1), (3, .int x3), (4, .int s.1)]) [1, 3, 4] rfl ?_
        exact cw_goOn_44 s0 D X cB cI cJ cD al l1 l2 l3 l4 l5 A tp dv cs cv jv bo hg lw sb n x1 x3 s.1  a1 hW ho1 hXX hFr h (fun r hr => hQ r (by rw [hr]))
      · replace h := zif_neg q h
        clear q
        refine zV_blk (pc' := 28) (lo' := [(0, .ref al), (1, .ref a1), (2, .int x2), (3, .int x3), (4, .int s.1), (5, .int s.2)]) (st' := [.ref al]) [.aload_n 0] (by decide +kernel) rfl ?_
        refine l_getB (idx := 53) hW (zT_mem 167 (by decide +kernel) rfl) (by decide +kernel) (fun hx => ?_) (fun b5 z6 hx ho7 => ?_)
        · replace h := zOm_n hx h
          refine zV_blk (pc' := 35) (lo' := [(0, .ref al), (1, .ref a1), (2, .int x2), (3, .int x3), (4, .int s.1), (5, .int s.2)]) (st' := [.int (s.1 - 1), .null]) [.iload 4, .iconst 1, .isub] (by decide +kernel) rfl ?_
          cases h
        · replace h := zOm_s hx h
          refine zV_blk (pc' := 35) (lo' := [(0, .ref al), (1, .ref a1), (2, .int x2), (3, .int x3), (4, .int s.1), (5, .int s.2)]) (st' := [.int (s.1 - 1), .ref b5]) [.iload 4, .iconst 1, .isub] (by decide +kernel) rfl ?_
          obtain ⟨hz, h⟩ := zck_some h
          refine l_ldB ho7 hz (by decide +kernel) ?_
          refine zV_blk (pc' := 41) (lo' := [(5, .int (s.2 + 1)), (4, .int (z6 ((s.1 - 1) : Int32).toNatClampNeg)), (0, .ref al), (1, .ref a1), (2, .int x2), (3, .int x3)]) (st' := []) [.istore 4, .iinc 5 1] (by decide +kernel) rfl ?_
          refine zV_goto (tgt := 6) (off := -35) (by decide +kernel) (by decide) ?_
          obtain rfl := Option.some.inj h
          refine zV_pick (lo2 := [(0, .ref al), (1, .ref a1), (2, .int x2), (3, .int x3), (4, .int (z6 ((s.1 - 1) : Int32).toNatClampNeg)), (5, .int (s.2 + 1))]) [2, 3, 4, 5, 1, 0] rfl ?_
          exact hL6 _ rfl _ _ _ hXX hW hFr
theorem cw_goOn_6L (s0 : State) (D : va_G) (X : Nat → Prop) (cB cI cJ cD : ClassId) (al l1 l2 l3 l4 l5 : Nat) (A : Nat → Int32) (tp : Nat → Int32) (dv : Nat → Option vDes) (cs : Nat → Int32) (cv : Nat → Option vDes) (jv : Option vJoint) (bo : Option (Nat → Int32)) (hg : Option (Nat → Int64)) (lw : Option (Nat → Int64)) (sb : vSB) (n : Nat) (x1 : vLaw) (x2 : Int32) (x3 : Int32) (a1 : Nat) : ∀ (k : Nat) (s : Int32 × Int32) {hi0 hi hm0 hm : zHp} {nx : Nat} {Q : Option Value → zHp → zHp → Nat → Prop} (_ : lW X cB cI cJ cD al l1 l2 l3 l4 l5 A tp dv cs cv jv bo hg lw sb hi hm) (ho1 : iLaw cI hi a1 x1) (_ : zX hi0 hi) (_ : lFr X hm0 hm) {x : Int32} (_ : zloop (w_goOn_6 n bo x1 x2 x3) k s = some x) (hQ : ∀ r : Int32, x = r → ∀ (hi' hm' : zHp) (nx' : Nat), zX hi0 hi' → lW X cB cI cJ cD al l1 l2 l3 l4 l5 A tp dv cs cv jv bo hg lw sb hi' hm' → lFr X hm0 hm' → Q (some (.int r)) hi' hm' nx'), zV s0 D (zty cB cI cJ cD) yX11_goOn cX11_goOn 6 (some .int) 2 44 0 0 6 [(0, .ref al), (1, .ref a1), (2, .int x2), (3, .int x3), (4, .int s.1), (5, .int s.2)] [] hi hm nx Q
  | 0, s, _, _, _, _, _, _, _, _, _, _, _, h, _ => by cases h
  | k + 1, s, hi0, hi, hm0, hm, nx, Q, hW, ho1, hXX, hFr, x, h, hQ => by
    obtain ⟨z, hz, h1, h2⟩ := zloop_succ h
    exact cw_goOn_6 s0 D X cB cI cJ cD al l1 l2 l3 l4 l5 A tp dv cs cv jv bo hg lw sb n x1 x2 x3 a1 s hW ho1 zX.rf hFr hz (fun s' hs hi' hm' nx' hX hW' hFr' => cw_goOn_6L s0 D X cB cI cJ cD al l1 l2 l3 l4 l5 A tp dv cs cv jv bo hg lw sb n x1 x2 x3 a1 k s' hW' (ho1.mono hX) (hXX.tr hX) hFr' (h1 s' hs) hQ) (fun r hr hi' hm' nx' hX hW' hFr' => hQ r (h2 _ hr).symm hi' hm' nx' (hXX.tr hX) hW' hFr')
def w_goOn (n : Nat) (bo : Option (Nat → Int32)) (x1 : vLaw) (x2 : Int32) (x3 : Int32) : Option (Int32) := (zloop (w_goOn_6 n bo x1 x2 x3) n (x2, 0))
theorem oX11_goOn : zO yX11_goOn cX11_goOn 6 (some .int) 3 := ⟨zT_mem 1363 (by decide +kernel) rfl, zT_mem 89 (by decide +kernel) rfl, by decide +kernel, by decide +kernel, by decide +kernel⟩
set_option maxHeartbeats 4000000 in
set_option maxRecDepth 100000 in
theorem cw_goOn (s0 : State) (D : va_G) (X : Nat → Prop) (cB cI cJ cD : ClassId) (al l1 l2 l3 l4 l5 : Nat) (A : Nat → Int32) (tp : Nat → Int32) (dv : Nat → Option vDes) (cs : Nat → Int32) (cv : Nat → Option vDes) (jv : Option vJoint) (bo : Option (Nat → Int32)) (hg : Option (Nat → Int64)) (lw : Option (Nat → Int64)) (sb : vSB) (n : Nat) (x1 : vLaw) (x2 : Int32) (x3 : Int32) (a1 : Nat) (x : Int32) (h : w_goOn n bo x1 x2 x3 = some x) {hi hm : zHp} {nx : Nat} {Q : Option Value → zHp → zHp → Nat → Prop} (hW : lW X cB cI cJ cD al l1 l2 l3 l4 l5 A tp dv cs cv jv bo hg lw sb hi hm) (ho1 : iLaw cI hi a1 x1) (hQ0 : ∀ (hi' hm' : zHp) (nx' : Nat), zX hi hi' → lW X cB cI cJ cD al l1 l2 l3 l4 l5 A tp dv cs cv jv bo hg lw sb hi' hm' → lFr X hm hm' → Q (some (.int x)) hi' hm' nx') : zM s0 D (zty cB cI cJ cD) yX11_goOn cX11_goOn 6 (some .int) 2 44 0 0 [.ref al, .ref a1, .int x2, .int x3] hi hm nx Q := by
  have hQ : ∀ r : Int32, x = r → ∀ (hi' hm' : zHp) (nx' : Nat), zX hi hi' → lW X cB cI cJ cD al l1 l2 l3 l4 l5 A tp dv cs cv jv bo hg lw sb hi' hm' → lFr X hm hm' → Q (some (.int r)) hi' hm' nx' := fun r hr => by subst hr; exact hQ0
  clear hQ0
  have hXX : zX hi hi := zX.rf
  have hFr : lFr X hm hm := lFr.rf
  refine zM_of (by decide +kernel) (Nat.le_of_ble_eq_true rfl) ?_
  unfold w_goOn at h
  refine zV_eq (lo2 := [(0, .ref al), (1, .ref a1), (2, .int x2), (3, .int x3)]) rfl rfl rfl rfl ?_
  refine zV_blk (pc' := 6) (lo' := [(5, .int 0), (4, .int x2), (0, .ref al), (1, .ref a1), (2, .int x2), (3, .int x3)]) (st' := []) [.iload_n 2, .istore 4, .iconst 0, .istore 5] (by decide +kernel) rfl ?_
  refine zV_pick (lo2 := [(0, .ref al), (1, .ref a1), (2, .int x2), (3, .int x3), (4, .int x2), (5, .int 0)]) [2, 3, 4, 5, 1, 0] rfl ?_
  exact cw_goOn_6L s0 D X cB cI cJ cD al l1 l2 l3 l4 l5 A tp dv cs cv jv bo hg lw sb n x1 x2 x3 a1 n (x2, 0) hW ho1 hXX hFr h hQ

def w_fillBorders_28 (n : Nat) (x1 : vLaw) (x2 : Int32) (s : Int32 × Int32 × (Option (Nat → Int32))) : Option ((Int32 × Int32 × (Option (Nat → Int32))) ⊕ ((Option (Nat → Int32)))) := (if (x2 : Int32) ≤ (s.2.1 : Int32) then some (.inr s.2.2) else (d_isLeap n x1 s.2.1).bind (fun v1 => (w_goOn n s.2.2 x1 s.1 (zb v1)).bind (fun v2 => zOm (s.2.2) (none) (fun z5 => zck (zin (s.2.1) 9999) (some (.inl (v2, (s.2.1 + 1), (some (upd z5 (s.2.1 : Int32).toNatClampNeg v2)))))))))
set_option maxHeartbeats 4000000 in
set_option maxRecDepth 100000 in
theorem cw_fillBorders_28 (s0 : State) (D : va_G) (X : Nat → Prop) (cB cI cJ cD : ClassId) (al l1 l2 l3 l4 l5 : Nat) (A : Nat → Int32) (tp : Nat → Int32) (dv : Nat → Option vDes) (cs : Nat → Int32) (cv : Nat → Option vDes) (jv : Option vJoint) (hg : Option (Nat → Int64)) (lw : Option (Nat → Int64)) (sb : vSB) (n : Nat) (x1 : vLaw) (x2 : Int32) (a1 : Nat) (s : Int32 × Int32 × (Option (Nat → Int32))) {x : (Int32 × Int32 × (Option (Nat → Int32))) ⊕ ((Option (Nat → Int32)))} {hi0 hi hm0 hm : zHp} {nx : Nat} {Q : Option Value → zHp → zHp → Nat → Prop} (hW : lW X cB cI cJ cD al l1 l2 l3 l4 l5 A tp dv cs cv jv s.2.2 hg lw sb hi hm) (ho1 : iLaw cI hi a1 x1) (hXX : zX hi0 hi) (hFr : lFr X hm0 hm) (h : w_fillBorders_28 n  x1 x2 s = some x) (hL28 : ∀ s : Int32 × Int32 × (Option (Nat → Int32)), x = (.inl s) → ∀ (hi' hm' : zHp) (nx' : Nat), zX hi0 hi' → lW X cB cI cJ cD al l1 l2 l3 l4 l5 A tp dv cs cv jv s.2.2 hg lw sb hi' hm' → lFr X hm0 hm' → zV s0 D (zty cB cI cJ cD) yX11_fillBorders cX11_fillBorders 5 none 3 69 0 0 28 [(0, .ref al), (1, .ref a1), (2, .int x2), (3, .int s.1), (4, .int s.2.1)] [] hi' hm' nx' Q) (hQ : ∀ r : (Option (Nat → Int32)), x = (.inr r) → ∀ (hi' hm' : zHp) (nx' : Nat), zX hi0 hi' → lW X cB cI cJ cD al l1 l2 l3 l4 l5 A tp dv cs cv jv r hg lw sb hi' hm' → lFr X hm0 hm' → Q none hi' hm' nx') : zV s0 D (zty cB cI cJ cD) yX11_fillBorders cX11_fillBorders 5 none 3 69 0 0 28 [(0, .ref al), (1, .ref a1), (2, .int x2), (3, .int s.1), (4, .int s.2.1)] [] hi hm nx Q := by
  unfold w_fillBorders_28 at h
  refine zV_blk (pc' := 31) (lo' := [(0, .ref al), (1, .ref a1), (2, .int x2), (3, .int s.1), (4, .int s.2.1)]) (st' := [.int x2, .int s.2.1]) [.iload 4, .iload_n 2] (by decide +kernel) rfl ?_
  refine zV_icmp_ge (tgt := 61) (off := 30) (by decide +kernel) (by decide) (fun q => ?_) (fun q => ?_)
  · replace h := zif_pos q h
    clear q
    obtain rfl := Option.some.inj h
    exact zV_vret rfl (by decide +kernel) (hQ _ rfl _ _ _ hXX hW hFr)
  · replace h := zif_neg q h
    clear q
    refine zV_blk (pc' := 40) (lo' := [(0, .ref al), (1, .ref a1), (2, .int x2), (3, .int s.1), (4, .int s.2.1)]) (st' := [.int s.2.1, .ref a1, .int s.1, .ref a1, .ref al]) [.aload_n 0, .aload_n 1, .iload_n 3, .aload_n 1, .iload 4] (by decide +kernel) rfl ?_
    obtain ⟨v1, hv1, h⟩ := zbind h
    refine dc_isLeap s0 D cB cI cJ cD (idx := 223) n x1 s.2.1 a1 v1 hv1 ho1 (zT_mem 1014 (by decide +kernel) rfl) (rest := [.int s.1, .ref a1, .ref al]) rfl (Nat.le_of_ble_eq_true rfl) ⟨by decide, by decide⟩ (by decide +kernel) ?_
    refine zV_eq (st2 := [.int (zb v1), .int s.1, .ref a1, .ref al]) rfl rfl rfl rfl ?_
    obtain ⟨v2, hv2, h⟩ := zbind h
    refine l_call (mc := 0) (ms := 0) (idx := 380) (As := [.ref a1, .int s.1, .int (zb v1)]) (rest := []) hW (fun Q2 hQ2 => cw_goOn s0 D X cB cI cJ cD al l1 l2 l3 l4 l5 A tp dv cs cv jv s.2.2 hg lw sb n x1 s.1 (zb v1) a1 v2 hv2 hW ho1  hQ2) oX11_goOn rfl (zT_mem 1360 (by decide +kernel) rfl) (zT_mem 1362 (by decide +kernel) rfl) (zT_mem 16 (by decide +kernel) rfl) rfl rfl (Nat.le_of_ble_eq_true rfl) ⟨by decide, by decide⟩ (by decide +kernel) ?_
    intro hi2 hm2 nx3 hX hW2 hFr2
    replace ho1 := ho1.mono hX
    clear hW; have hW := hW2; clear hW2
    replace hXX := hXX.tr hX; clear hX
    replace hFr := hFr.tr hFr2; clear hFr2
    refine zV_eq (st2 := [.int v2]) rfl rfl rfl rfl ?_
    refine zV_blk (pc' := 48) (lo' := [(3, .int v2), (0, .ref al), (1, .ref a1), (2, .int x2), (4, .int s.2.1)]) (st' := [.ref al]) [.istore_n 3, .aload_n 0] (by decide +kernel) rfl ?_
    refine l_getB (idx := 53) hW (zT_mem 167 (by decide +kernel) rfl) (by decide +kernel) (fun hx => ?_) (fun b4 z5 hx ho6 => ?_)
    · replace h := zOm_n hx h
      refine zV_blk (pc' := 54) (lo' := [(3, .int v2), (0, .ref al), (1, .ref a1), (2, .int x2), (4, .int s.2.1)]) (st' := [.int v2, .int s.2.1, .null]) [.iload 4, .iload_n 3] (by decide +kernel) rfl ?_
      cases h
    · replace h := zOm_s hx h
      refine zV_blk (pc' := 54) (lo' := [(3, .int v2), (0, .ref al), (1, .ref a1), (2, .int x2), (4, .int s.2.1)]) (st' := [.int v2, .int s.2.1, .ref b4]) [.iload 4, .iload_n 3] (by decide +kernel) rfl ?_
      obtain ⟨hz, h⟩ := zck_some h
      refine l_stB ho6 hz (by decide +kernel) (fun hm hW hFr2 => ?_)
      replace hFr := hFr.tr hFr2; clear hFr2
      refine zV_blk (pc' := 58) (lo' := [(4, .int (s.2.1 + 1)), (3, .int v2), (0, .ref al), (1, .ref a1), (2, .int x2)]) (st' := []) [.iinc 4 1] (by decide +kernel) rfl ?_
      refine zV_goto (tgt := 28) (off := -30) (by decide +kernel) (by decide) ?_
      obtain rfl := Option.some.inj h
      refine zV_pick (lo2 := [(0, .ref al), (1, .ref a1), (2, .int x2), (3, .int v2), (4, .int (s.2.1 + 1))]) [2, 3, 4, 1, 0] rfl ?_
      exact hL28 _ rfl _ _ _ hXX hW hFr
theorem cw_fillBorders_28L (s0 : State) (D : va_G) (X : Nat → Prop) (cB cI cJ cD : ClassId) (al l1 l2 l3 l4 l5 : Nat) (A : Nat → Int32) (tp : Nat → Int32) (dv : Nat → Option vDes) (cs : Nat → Int32) (cv : Nat → Option vDes) (jv : Option vJoint) (hg : Option (Nat → Int64)) (lw : Option (Nat → Int64)) (sb : vSB) (n : Nat) (x1 : vLaw) (x2 : Int32) (a1 : Nat) : ∀ (k : Nat) (s : Int32 × Int32 × (Option (Nat → Int32))) {hi0 hi hm0 hm : zHp} {nx : Nat} {Q : Option Value → zHp → zHp → Nat → Prop} (_ : lW X cB cI cJ cD al l1 l2 l3 l4 l5 A tp dv cs cv jv s.2.2 hg lw sb hi hm) (ho1 : iLaw cI hi a1 x1) (_ : zX hi0 hi) (_ : lFr X hm0 hm) {x : (Option (Nat → Int32))} (_ : zloop (w_fillBorders_28 n  x1 x2) k s = some x) (hQ : ∀ r : (Option (Nat → Int32)), x = r → ∀ (hi' hm' : zHp) (nx' : Nat), zX hi0 hi' → lW X cB cI cJ cD al l1 l2 l3 l4 l5 A tp dv cs cv jv r hg lw sb hi' hm' → lFr X hm0 hm' → Q none hi' hm' nx'), zV s0 D (zty cB cI cJ cD) yX11_fillBorders cX11_fillBorders 5 none 3 69 0 0 28 [(0, .ref al), (1, .ref a1), (2, .int x2), (3, .int s.1), (4, .int s.2.1)] [] hi hm nx Q
  | 0, s, _, _, _, _, _, _, _, _, _, _, _, h, _ => by cases h
  | k + 1, s, hi0, hi, hm0, hm, nx, Q, hW, ho1, hXX, hFr, x, h, hQ => by
    obtain ⟨z, hz, h1, h2⟩ := zloop_succ h
    exact cw_fillBorders_28 s0 D X cB cI cJ cD al l1 l2 l3 l4 l5 A tp dv cs cv jv hg lw sb n x1 x2 a1 s hW ho1 zX.rf hFr hz (fun s' hs hi' hm' nx' hX hW' hFr' => cw_fillBorders_28L s0 D X cB cI cJ cD al l1 l2 l3 l4 l5 A tp dv cs cv jv hg lw sb n x1 x2 a1 k s' hW' (ho1.mono hX) (hXX.tr hX) hFr' (h1 s' hs) hQ) (fun r hr hi' hm' nx' hX hW' hFr' => hQ r (h2 _ hr).symm hi' hm' nx' (hXX.tr hX) hW' hFr')
def w_fillBorders_16 (n : Nat) (bo : Option (Nat → Int32)) (x1 : vLaw) (x2 : Int32) : Option ((Option (Nat → Int32))) := zOm (bo) (none) (fun z2 => zck (zin (0) 9999) ((zloop (w_fillBorders_28 n  x1 x2) n (0, 1, (some (upd z2 (0 : Int32).toNatClampNeg 0))))))
set_option maxHeartbeats 4000000 in
set_option maxRecDepth 100000 in
theorem cw_fillBorders_16 (s0 : State) (D : va_G) (X : Nat → Prop) (cB cI cJ cD : ClassId) (al l1 l2 l3 l4 l5 : Nat) (A : Nat → Int32) (tp : Nat → Int32) (dv : Nat → Option vDes) (cs : Nat → Int32) (cv : Nat → Option vDes) (jv : Option vJoint) (bo : Option (Nat → Int32)) (hg : Option (Nat → Int64)) (lw : Option (Nat → Int64)) (sb : vSB) (n : Nat) (x1 : vLaw) (x2 : Int32) (a1 : Nat) {x : (Option (Nat → Int32))} {hi0 hi hm0 hm : zHp} {nx : Nat} {Q : Option Value → zHp → zHp → Nat → Prop} (hW : lW X cB cI cJ cD al l1 l2 l3 l4 l5 A tp dv cs cv jv bo hg lw sb hi hm) (ho1 : iLaw cI hi a1 x1) (hXX : zX hi0 hi) (hFr : lFr X hm0 hm) (h : w_fillBorders_16 n bo x1 x2 = some x) (hQ : ∀ r : (Option (Nat → Int32)), x = r → ∀ (hi' hm' : zHp) (nx' : Nat), zX hi0 hi' → lW X cB cI cJ cD al l1 l2 l3 l4 l5 A tp dv cs cv jv r hg lw sb hi' hm' → lFr X hm0 hm' → Q none hi' hm' nx') : zV s0 D (zty cB cI cJ cD) yX11_fillBorders cX11_fillBorders 5 none 3 69 0 0 16 [(0, .ref al), (1, .ref a1), (2, .int x2)] [] hi hm nx Q := by
  unfold w_fillBorders_16 at h
  refine zV_blk (pc' := 19) (lo' := [(3, .int 0), (0, .ref al), (1, .ref a1), (2, .int x2)]) (st' := [.ref al]) [.iconst 0, .istore_n 3, .aload_n 0] (by decide +kernel) rfl ?_
  refine l_getB (idx := 53) hW (zT_mem 167 (by decide +kernel) rfl) (by decide +kernel) (fun hx => ?_) (fun b1 z2 hx ho3 => ?_)
  · replace h := zOm_n hx h
    refine zV_blk (pc' := 24) (lo' := [(3, .int 0), (0, .ref al), (1, .ref a1), (2, .int x2)]) (st' := [.int 0, .int 0, .null]) [.iconst 0, .iconst 0] (by decide +kernel) rfl ?_
    cases h
  · replace h := zOm_s hx h
    refine zV_blk (pc' := 24) (lo' := [(3, .int 0), (0, .ref al), (1, .ref a1), (2, .int x2)]) (st' := [.int 0, .int 0, .ref b1]) [.iconst 0, .iconst 0] (by decide +kernel) rfl ?_
    obtain ⟨hz, h⟩ := zck_some h
    refine l_stB ho3 hz (by decide +kernel) (fun hm hW hFr2 => ?_)
    replace hFr := hFr.tr hFr2; clear hFr2
    refine zV_blk (pc' := 28) (lo' := [(4, .int 1), (3, .int 0), (0, .ref al), (1, .ref a1), (2, .int x2)]) (st' := []) [.iconst 1, .istore 4] (by decide +kernel) rfl ?_
    refine zV_pick (lo2 := [(0, .ref al), (1, .ref a1), (2, .int x2), (3, .int 0), (4, .int 1)]) [2, 3, 4, 1, 0] rfl ?_
    exact cw_fillBorders_28L s0 D X cB cI cJ cD al l1 l2 l3 l4 l5 A tp dv cs cv jv hg lw sb n x1 x2 a1 n (0, 1, (some (upd z2 (0 : Int32).toNatClampNeg 0))) hW ho1 hXX hFr h hQ
def w_fillBorders (n : Nat) (bo : Option (Nat → Int32)) (x1 : vLaw) (x2 : Int32) : Option ((Option (Nat → Int32))) := zOm (bo) ((w_fillBorders_16 n (some (fun _ => 0)) x1 x2 )) (fun z2 => (w_fillBorders_16 n bo x1 x2 ))
theorem oX11_fillBorders : zO yX11_fillBorders cX11_fillBorders 5 none 2 := ⟨zT_mem 1359 (by decide +kernel) rfl, zT_mem 89 (by decide +kernel) rfl, by decide +kernel, by decide +kernel, by decide +kernel⟩
set_option maxHeartbeats 4000000 in
set_option maxRecDepth 100000 in
theorem cw_fillBorders (s0 : State) (D : va_G) (X : Nat → Prop) (cB cI cJ cD : ClassId) (al l1 l2 l3 l4 l5 : Nat) (A : Nat → Int32) (tp : Nat → Int32) (dv : Nat → Option vDes) (cs : Nat → Int32) (cv : Nat → Option vDes) (jv : Option vJoint) (bo : Option (Nat → Int32)) (hg : Option (Nat → Int64)) (lw : Option (Nat → Int64)) (sb : vSB) (n : Nat) (x1 : vLaw) (x2 : Int32) (a1 : Nat) (x : (Option (Nat → Int32))) (h : w_fillBorders n bo x1 x2 = some x) {hi hm : zHp} {nx : Nat} {Q : Option Value → zHp → zHp → Nat → Prop} (hW : lW X cB cI cJ cD al l1 l2 l3 l4 l5 A tp dv cs cv jv bo hg lw sb hi hm) (ho1 : iLaw cI hi a1 x1) (hQ0 : ∀ (hi' hm' : zHp) (nx' : Nat), zX hi hi' → lW X cB cI cJ cD al l1 l2 l3 l4 l5 A tp dv cs cv jv x hg lw sb hi' hm' → lFr X hm hm' → Q none hi' hm' nx') : zM s0 D (zty cB cI cJ cD) yX11_fillBorders cX11_fillBorders 5 none 3 69 1 9999 [.ref al, .ref a1, .int x2] hi hm nx Q := by
  have hQ : ∀ r : (Option (Nat → Int32)), x = r → ∀ (hi' hm' : zHp) (nx' : Nat), zX hi hi' → lW X cB cI cJ cD al l1 l2 l3 l4 l5 A tp dv cs cv jv r hg lw sb hi' hm' → lFr X hm hm' → Q none hi' hm' nx' := fun r hr => by subst hr; exact hQ0
  clear hQ0
  have hXX : zX hi hi := zX.rf
  have hFr : lFr X hm hm := lFr.rf
  refine zM_of (by decide +kernel) (Nat.le_of_ble_eq_true rfl) ?_
  unfold w_fillBorders at h
  refine zV_eq (lo2 := [(0, .ref al), (1, .ref a1), (2, .int x2)]) rfl rfl rfl rfl ?_
  refine zV_blk (pc' := 1) (lo' := [(0, .ref al), (1, .ref a1), (2, .int x2)]) (st' := [.ref al]) [.aload_n 0] (by decide +kernel) rfl ?_
  refine l_getB (idx := 53) hW (zT_mem 167 (by decide +kernel) rfl) (by decide +kernel) (fun hx => ?_) (fun b1 z2 hx ho3 => ?_)
  · replace h := zOm_n hx h
    refine zV_ifnonnull (r := none) (tgt := 16) (off := 12) (by decide +kernel) (by decide) (fun _ q => by cases q) (fun _ => ?_)
    refine zV_blk (pc' := 11) (lo' := [(0, .ref al), (1, .ref a1), (2, .int x2)]) (st' := [.int 9999, .ref al]) [.aload_n 0, .sipush 9999] (by decide +kernel) rfl ?_
    refine zV_newI (mc := 0) (ms := 0) (n := 9999) (N := 9999) (zT_mem 155 (by decide +kernel) rfl) (by decide) (by decide) (by decide) (by decide +kernel) (fun _ hn4 => ?_)
    obtain ⟨b5, heb5⟩ : ∃ z : Nat, z = nx := ⟨_, rfl⟩
    rw [← heb5] at hn4 ⊢
    obtain ⟨nb5, henb5⟩ : ∃ z : Nat, z = b5 + 1 := ⟨_, rfl⟩
    rw [← henb5]; clear henb5 heb5
    refine l_putB (idx := 53) hW hn4 (zT_mem 167 (by decide +kernel) rfl) (by decide +kernel) (fun hm hW hFr2 => ?_)
    replace hFr := hFr.tr hFr2; clear hFr2
    refine zV_pick (lo2 := [(0, .ref al), (1, .ref a1), (2, .int x2)]) [0, 1, 2] rfl ?_
    exact cw_fillBorders_16 s0 D X cB cI cJ cD al l1 l2 l3 l4 l5 A tp dv cs cv jv (some (fun _ => 0)) hg lw sb n x1 x2  a1 hW ho1 hXX hFr h hQ
  · replace h := zOm_s hx h
    refine zV_ifnonnull (r := some b1) (tgt := 16) (off := 12) (by decide +kernel) (by decide) (fun _ _ => ?_) (fun q => by cases q)
    refine zV_less (mc' := 0) (ms' := 0) (by decide) (by decide) ?_
    refine zV_pick (lo2 := [(0, .ref al), (1, .ref a1), (2, .int x2)]) [0, 1, 2] rfl ?_
    exact cw_fillBorders_16 s0 D X cB cI cJ cD al l1 l2 l3 l4 l5 A tp dv cs cv jv bo hg lw sb n x1 x2  a1 hW ho1 hXX hFr h hQ
set_option maxHeartbeats 4000000 in
set_option maxRecDepth 100000 in
theorem cw_fillBordersS (s0 : State) (D : va_G) (X : Nat → Prop) (cB cI cJ cD : ClassId) (al l1 l2 l3 l4 l5 : Nat) (A : Nat → Int32) (tp : Nat → Int32) (dv : Nat → Option vDes) (cs : Nat → Int32) (cv : Nat → Option vDes) (jv : Option vJoint) (bo : Option (Nat → Int32)) (hg : Option (Nat → Int64)) (lw : Option (Nat → Int64)) (sb : vSB) (n : Nat) (x1 : vLaw) (x2 : Int32) (a1 : Nat) (x : (Option (Nat → Int32))) (h : w_fillBorders n bo x1 x2 = some x) {hi hm : zHp} {nx : Nat} {Q : Option Value → zHp → zHp → Nat → Prop} (hW : lW X cB cI cJ cD al l1 l2 l3 l4 l5 A tp dv cs cv jv bo hg lw sb hi hm) (ho1 : iLaw cI hi a1 x1) (hb_bo : bo ≠ none) (hQ0 : ∀ (hi' hm' : zHp) (nx' : Nat), zX hi hi' → lW X cB cI cJ cD al l1 l2 l3 l4 l5 A tp dv cs cv jv x hg lw sb hi' hm' → lFr X hm hm' → Q none hi' hm' nx') : zM s0 D (zty cB cI cJ cD) yX11_fillBorders cX11_fillBorders 5 none 3 69 0 0 [.ref al, .ref a1, .int x2] hi hm nx Q := by
  have hQ : ∀ r : (Option (Nat → Int32)), x = r → ∀ (hi' hm' : zHp) (nx' : Nat), zX hi hi' → lW X cB cI cJ cD al l1 l2 l3 l4 l5 A tp dv cs cv jv r hg lw sb hi' hm' → lFr X hm hm' → Q none hi' hm' nx' := fun r hr => by subst hr; exact hQ0
  clear hQ0
  have hXX : zX hi hi := zX.rf
  have hFr : lFr X hm hm := lFr.rf
  refine zM_of (by decide +kernel) (Nat.le_of_ble_eq_true rfl) ?_
  unfold w_fillBorders at h
  refine zV_eq (lo2 := [(0, .ref al), (1, .ref a1), (2, .int x2)]) rfl rfl rfl rfl ?_
  refine zV_blk (pc' := 1) (lo' := [(0, .ref al), (1, .ref a1), (2, .int x2)]) (st' := [.ref al]) [.aload_n 0] (by decide +kernel) rfl ?_
  refine l_getB (idx := 53) hW (zT_mem 167 (by decide +kernel) rfl) (by decide +kernel) (fun hx => ?_) (fun b1 z2 hx ho3 => ?_)
  · exact absurd hx hb_bo
  · replace h := zOm_s hx h
    refine zV_ifnonnull (r := some b1) (tgt := 16) (off := 12) (by decide +kernel) (by decide) (fun _ _ => ?_) (fun q => by cases q)
    refine zV_pick (lo2 := [(0, .ref al), (1, .ref a1), (2, .int x2)]) [0, 1, 2] rfl ?_
    exact cw_fillBorders_16 s0 D X cB cI cJ cD al l1 l2 l3 l4 l5 A tp dv cs cv jv bo hg lw sb n x1 x2  a1 hW ho1 hXX hFr h hQ

def w_placeInRound_6 (n : Nat) (bo : Option (Nat → Int32)) (x1 : vLaw) (x2 : vLaw) (x3 : Int32) (s : Int32 × Int32) : Option ((Int32 × Int32) ⊕ (Int32)) := (if (((2 * x3) - 1) : Int32) ≤ (s.2 : Int32) then some (.inr (-1)) else (d_isLeap n x2 s.2).bind (fun v1 => (w_goOn n bo x1 s.1 (zb v1)).bind (fun v2 => (if (v2 : Int32) = (x3 : Int32) then some (.inr ((s.2 - x3) + 1)) else some (.inl (v2, (s.2 + 1)))))))
set_option maxHeartbeats 4000000 in
set_option maxRecDepth 100000 in
theorem cw_placeInRound_6 (s0 : State) (D : va_G) (X : Nat → Prop) (cB cI cJ cD : ClassId) (al l1 l2 l3 l4 l5 : Nat) (A : Nat → Int32) (tp : Nat → Int32) (dv : Nat → Option vDes) (cs : Nat → Int32) (cv : Nat → Option vDes) (jv : Option vJoint) (bo : Option (Nat → Int32)) (hg : Option (Nat → Int64)) (lw : Option (Nat → Int64)) (sb : vSB) (n : Nat) (x1 : vLaw) (x2 : vLaw) (x3 : Int32) (a1 : Nat) (a2 : Nat) (s : Int32 × Int32) {x : (Int32 × Int32) ⊕ (Int32)} {hi0 hi hm0 hm : zHp} {nx : Nat} {Q : Option Value → zHp → zHp → Nat → Prop} (hW : lW X cB cI cJ cD al l1 l2 l3 l4 l5 A tp dv cs cv jv bo hg lw sb hi hm) (ho1 : iLaw cI hi a1 x1) (ho2 : iLaw cI hi a2 x2) (hXX : zX hi0 hi) (hFr : lFr X hm0 hm) (h : w_placeInRound_6 n bo x1 x2 x3 s = some x) (hL6 : ∀ s : Int32 × Int32, x = (.inl s) → ∀ (hi' hm' : zHp) (nx' : Nat), zX hi0 hi' → lW X cB cI cJ cD al l1 l2 l3 l4 l5 A tp dv cs cv jv bo hg lw sb hi' hm' → lFr X hm0 hm' → zV s0 D (zty cB cI cJ cD) yX11_placeInRound cX11_placeInRound 6 (some .int) 3 69 0 0 6 [(0, .ref al), (1, .ref a1), (2, .ref a2), (3, .int x3), (4, .int s.1), (5, .int s.2)] [] hi' hm' nx' Q) (hQ : ∀ r : Int32, x = (.inr r) → ∀ (hi' hm' : zHp) (nx' : Nat), zX hi0 hi' → lW X cB cI cJ cD al l1 l2 l3 l4 l5 A tp dv cs cv jv bo hg lw sb hi' hm' → lFr X hm0 hm' → Q (some (.int r)) hi' hm' nx') : zV s0 D (zty cB cI cJ cD) yX11_placeInRound cX11_placeInRound 6 (some .int) 3 69 0 0 6 [(0, .ref al), (1, .ref a1), (2, .ref a2), (3, .int x3), (4, .int s.1), (5, .int s.2)] [] hi hm nx Q := by
  unfold w_placeInRound_6 at h
  refine zV_blk (pc' := 13) (lo' := [(0, .ref al), (1, .ref a1), (2, .ref a2), (3, .int x3), (4, .int s.1), (5, .int s.2)]) (st' := [.int ((2 * x3) - 1), .int s.2]) [.iload 5, .iconst 2, .iload_n 3, .imul, .iconst 1, .isub] (by decide +kernel) rfl ?_
  refine zV_icmp_ge (tgt := 50) (off := 37) (by decide +kernel) (by decide) (fun q => ?_) (fun q => ?_)
  · replace h := zif_pos q h
    clear q
    refine zV_blk (pc' := 51) (lo' := [(0, .ref al), (1, .ref a1), (2, .ref a2), (3, .int x3), (4, .int s.1), (5, .int s.2)]) (st' := [.int (-1)]) [.iconst (-1)] (by decide +kernel) rfl ?_
    obtain rfl := Option.some.inj h
    exact zV_iret rfl (by decide +kernel) (hQ _ rfl _ _ _ hXX hW hFr)
  · replace h := zif_neg q h
    clear q
    refine zV_blk (pc' := 23) (lo' := [(0, .ref al), (1, .ref a1), (2, .ref a2), (3, .int x3), (4, .int s.1), (5, .int s.2)]) (st' := [.int s.2, .ref a2, .int s.1, .ref a1, .ref al]) [.aload_n 0, .aload_n 1, .iload 4, .aload_n 2, .iload 5] (by decide +kernel) rfl ?_
    obtain ⟨v1, hv1, h⟩ := zbind h
    refine dc_isLeap s0 D cB cI cJ cD (idx := 223) n x2 s.2 a2 v1 hv1 ho2 (zT_mem 1014 (by decide +kernel) rfl) (rest := [.int s.1, .ref a1, .ref al]) rfl (Nat.le_of_ble_eq_true rfl) ⟨by decide, by decide⟩ (by decide +kernel) ?_
    refine zV_eq (st2 := [.int (zb v1), .int s.1, .ref a1, .ref al]) rfl rfl rfl rfl ?_
    obtain ⟨v2, hv2, h⟩ := zbind h
    refine l_call (mc := 0) (ms := 0) (idx := 380) (As := [.ref a1, .int s.1, .int (zb v1)]) (rest := []) hW (fun Q2 hQ2 => cw_goOn s0 D X cB cI cJ cD al l1 l2 l3 l4 l5 A tp dv cs cv jv bo hg lw sb n x1 s.1 (zb v1) a1 v2 hv2 hW ho1  hQ2) oX11_goOn rfl (zT_mem 1360 (by decide +kernel) rfl) (zT_mem 1362 (by decide +kernel) rfl) (zT_mem 16 (by decide +kernel) rfl) rfl rfl (Nat.le_of_ble_eq_true rfl) ⟨by decide, by decide⟩ (by decide +kernel) ?_
    intro hi2 hm2 nx3 hX hW2 hFr2
    replace ho1 := ho1.mono hX
    replace ho2 := ho2.mono hX
    clear hW; have hW := hW2; clear hW2
    replace hXX := hXX.tr hX; clear hX
    replace hFr := hFr.tr hFr2; clear hFr2
    refine zV_eq (st2 := [.int v2]) rfl rfl rfl rfl ?_
    refine zV_blk (pc' := 34) (lo' := [(4, .int v2), (0, .ref al), (1, .ref a1), (2, .ref a2), (3, .int x3), (5, .int s.2)]) (st' := [.int x3, .int v2]) [.istore 4, .iload 4, .iload_n 3] (by decide +kernel) rfl ?_
    refine zV_icmp_ne (tgt := 44) (off := 10) (by decide +kernel) (by decide) (fun q => ?_) (fun q => ?_)
    · replace h := zif_neg q h
      clear q
      refine zV_blk (pc' := 47) (lo' := [(5, .int (s.2 + 1)), (4, .int v2), (0, .ref al), (1, .ref a1), (2, .ref a2), (3, .int x3)]) (st' := []) [.iinc 5 1] (by decide +kernel) rfl ?_
      refine zV_goto (tgt := 6) (off := -41) (by decide +kernel) (by decide) ?_
      obtain rfl := Option.some.inj h
      refine zV_pick (lo2 := [(0, .ref al), (1, .ref a1), (2, .ref a2), (3, .int x3), (4, .int v2), (5, .int (s.2 + 1))]) [2, 3, 4, 5, 1, 0] rfl ?_
      exact hL6 _ rfl _ _ _ hXX hW hFr
    · replace h := zif_pos q h
      clear q
      refine zV_blk (pc' := 43) (lo' := [(4, .int v2), (0, .ref al), (1, .ref a1), (2, .ref a2), (3, .int x3), (5, .int s.2)]) (st' := [.int ((s.2 - x3) + 1)]) [.iload 5, .iload_n 3, .isub, .iconst 1, .iadd] (by decide +kernel) rfl ?_
      obtain rfl := Option.some.inj h
      exact zV_iret rfl (by decide +kernel) (hQ _ rfl _ _ _ hXX hW hFr)
theorem cw_placeInRound_6L (s0 : State) (D : va_G) (X : Nat → Prop) (cB cI cJ cD : ClassId) (al l1 l2 l3 l4 l5 : Nat) (A : Nat → Int32) (tp : Nat → Int32) (dv : Nat → Option vDes) (cs : Nat → Int32) (cv : Nat → Option vDes) (jv : Option vJoint) (bo : Option (Nat → Int32)) (hg : Option (Nat → Int64)) (lw : Option (Nat → Int64)) (sb : vSB) (n : Nat) (x1 : vLaw) (x2 : vLaw) (x3 : Int32) (a1 : Nat) (a2 : Nat) : ∀ (k : Nat) (s : Int32 × Int32) {hi0 hi hm0 hm : zHp} {nx : Nat} {Q : Option Value → zHp → zHp → Nat → Prop} (_ : lW X cB cI cJ cD al l1 l2 l3 l4 l5 A tp dv cs cv jv bo hg lw sb hi hm) (ho1 : iLaw cI hi a1 x1) (ho2 : iLaw cI hi a2 x2) (_ : zX hi0 hi) (_ : lFr X hm0 hm) {x : Int32} (_ : zloop (w_placeInRound_6 n bo x1 x2 x3) k s = some x) (hQ : ∀ r : Int32, x = r → ∀ (hi' hm' : zHp) (nx' : Nat), zX hi0 hi' → lW X cB cI cJ cD al l1 l2 l3 l4 l5 A tp dv cs cv jv bo hg lw sb hi' hm' → lFr X hm0 hm' → Q (some (.int r)) hi' hm' nx'), zV s0 D (zty cB cI cJ cD) yX11_placeInRound cX11_placeInRound 6 (some .int) 3 69 0 0 6 [(0, .ref al), (1, .ref a1), (2, .ref a2), (3, .int x3), (4, .int s.1), (5, .int s.2)] [] hi hm nx Q
  | 0, s, _, _, _, _, _, _, _, _, _, _, _, _, h, _ => by cases h
  | k + 1, s, hi0, hi, hm0, hm, nx, Q, hW, ho1, ho2, hXX, hFr, x, h, hQ => by
    obtain ⟨z, hz, h1, h2⟩ := zloop_succ h
    exact cw_placeInRound_6 s0 D X cB cI cJ cD al l1 l2 l3 l4 l5 A tp dv cs cv jv bo hg lw sb n x1 x2 x3 a1 a2 s hW ho1 ho2 zX.rf hFr hz (fun s' hs hi' hm' nx' hX hW' hFr' => cw_placeInRound_6L s0 D X cB cI cJ cD al l1 l2 l3 l4 l5 A tp dv cs cv jv bo hg lw sb n x1 x2 x3 a1 a2 k s' hW' (ho1.mono hX) (ho2.mono hX) (hXX.tr hX) hFr' (h1 s' hs) hQ) (fun r hr hi' hm' nx' hX hW' hFr' => hQ r (h2 _ hr).symm hi' hm' nx' (hXX.tr hX) hW' hFr')
def w_placeInRound (n : Nat) (bo : Option (Nat → Int32)) (x1 : vLaw) (x2 : vLaw) (x3 : Int32) : Option (Int32) := (zloop (w_placeInRound_6 n bo x1 x2 x3) n (0, 0))
theorem oX11_placeInRound : zO yX11_placeInRound cX11_placeInRound 6 (some .int) 3 := ⟨zT_mem 1367 (by decide +kernel) rfl, zT_mem 89 (by decide +kernel) rfl, by decide +kernel, by decide +kernel, by decide +kernel⟩
set_option maxHeartbeats 4000000 in
set_option maxRecDepth 100000 in
theorem cw_placeInRound (s0 : State) (D : va_G) (X : Nat → Prop) (cB cI cJ cD : ClassId) (al l1 l2 l3 l4 l5 : Nat) (A : Nat → Int32) (tp : Nat → Int32) (dv : Nat → Option vDes) (cs : Nat → Int32) (cv : Nat → Option vDes) (jv : Option vJoint) (bo : Option (Nat → Int32)) (hg : Option (Nat → Int64)) (lw : Option (Nat → Int64)) (sb : vSB) (n : Nat) (x1 : vLaw) (x2 : vLaw) (x3 : Int32) (a1 : Nat) (a2 : Nat) (x : Int32) (h : w_placeInRound n bo x1 x2 x3 = some x) {hi hm : zHp} {nx : Nat} {Q : Option Value → zHp → zHp → Nat → Prop} (hW : lW X cB cI cJ cD al l1 l2 l3 l4 l5 A tp dv cs cv jv bo hg lw sb hi hm) (ho1 : iLaw cI hi a1 x1) (ho2 : iLaw cI hi a2 x2) (hQ0 : ∀ (hi' hm' : zHp) (nx' : Nat), zX hi hi' → lW X cB cI cJ cD al l1 l2 l3 l4 l5 A tp dv cs cv jv bo hg lw sb hi' hm' → lFr X hm hm' → Q (some (.int x)) hi' hm' nx') : zM s0 D (zty cB cI cJ cD) yX11_placeInRound cX11_placeInRound 6 (some .int) 3 69 0 0 [.ref al, .ref a1, .ref a2, .int x3] hi hm nx Q := by
  have hQ : ∀ r : Int32, x = r → ∀ (hi' hm' : zHp) (nx' : Nat), zX hi hi' → lW X cB cI cJ cD al l1 l2 l3 l4 l5 A tp dv cs cv jv bo hg lw sb hi' hm' → lFr X hm hm' → Q (some (.int r)) hi' hm' nx' := fun r hr => by subst hr; exact hQ0
  clear hQ0
  have hXX : zX hi hi := zX.rf
  have hFr : lFr X hm hm := lFr.rf
  refine zM_of (by decide +kernel) (Nat.le_of_ble_eq_true rfl) ?_
  unfold w_placeInRound at h
  refine zV_eq (lo2 := [(0, .ref al), (1, .ref a1), (2, .ref a2), (3, .int x3)]) rfl rfl rfl rfl ?_
  refine zV_blk (pc' := 6) (lo' := [(5, .int 0), (4, .int 0), (0, .ref al), (1, .ref a1), (2, .ref a2), (3, .int x3)]) (st' := []) [.iconst 0, .istore 4, .iconst 0, .istore 5] (by decide +kernel) rfl ?_
  refine zV_pick (lo2 := [(0, .ref al), (1, .ref a1), (2, .ref a2), (3, .int x3), (4, .int 0), (5, .int 0)]) [2, 3, 4, 5, 1, 0] rfl ?_
  exact cw_placeInRound_6L s0 D X cB cI cJ cD al l1 l2 l3 l4 l5 A tp dv cs cv jv bo hg lw sb n x1 x2 x3 a1 a2 n (0, 0) hW ho1 ho2 hXX hFr h hQ

def w_like (n : Nat) (dv : Nat → Option vDes) (bo : Option (Nat → Int32)) (x1 : Int32) (x2 : Int32) : Option (Int32 × (Option (Nat → Int32))) := (k_designAt dv x1).bind (fun v1 => zOm (v1) ((k_designAt dv x2).bind (fun v5 => zOm (v5) (some ((-1), bo)) (fun z7 => some ((-1), bo)))) (fun z3 => (k_designAt dv x2).bind (fun v9 => zOm (v9) (some ((-1), bo)) (fun z11 => (d_cycle z3.2.1).bind (fun v20 => (d_cycle z11.2.1).bind (fun v28 => (if (v20 : Int32) = (v28 : Int32) then (if (v20 : Int32) ≤ (9999 : Int32) then (w_fillBorders n bo z3.2.1 v20).bind (fun v29 => (w_placeInRound n v29 z3.2.1 z11.2.1 v20).bind (fun v31 => some (v31, v29))) else some ((-1), bo)) else some ((-1), bo))))))))
theorem oX11_like : zO yX11_like cX11_like 6 (some .int) 2 := ⟨zT_mem 1355 (by decide +kernel) rfl, zT_mem 89 (by decide +kernel) rfl, by decide +kernel, by decide +kernel, by decide +kernel⟩
set_option maxHeartbeats 4000000 in
set_option maxRecDepth 100000 in
theorem cw_like (s0 : State) (D : va_G) (X : Nat → Prop) (cB cI cJ cD : ClassId) (al l1 l2 l3 l4 l5 : Nat) (A : Nat → Int32) (tp : Nat → Int32) (dv : Nat → Option vDes) (cs : Nat → Int32) (cv : Nat → Option vDes) (jv : Option vJoint) (bo : Option (Nat → Int32)) (hg : Option (Nat → Int64)) (lw : Option (Nat → Int64)) (sb : vSB) (n : Nat) (x1 : Int32) (x2 : Int32) (x : Int32 × (Option (Nat → Int32))) (h : w_like n dv bo x1 x2 = some x) {hi hm : zHp} {nx : Nat} {Q : Option Value → zHp → zHp → Nat → Prop} (hW : lW X cB cI cJ cD al l1 l2 l3 l4 l5 A tp dv cs cv jv bo hg lw sb hi hm) (hQ0 : ∀ (hi' hm' : zHp) (nx' : Nat), zX hi hi' → lW X cB cI cJ cD al l1 l2 l3 l4 l5 A tp dv cs cv jv x.2 hg lw sb hi' hm' → lFr X hm hm' → Q (some (.int x.1)) hi' hm' nx') : zM s0 D (zty cB cI cJ cD) yX11_like cX11_like 6 (some .int) 4 94 1 9999 [.ref al, .int x1, .int x2] hi hm nx Q := by
  have hQ : ∀ r : Int32 × (Option (Nat → Int32)), x = r → ∀ (hi' hm' : zHp) (nx' : Nat), zX hi hi' → lW X cB cI cJ cD al l1 l2 l3 l4 l5 A tp dv cs cv jv r.2 hg lw sb hi' hm' → lFr X hm hm' → Q (some (.int r.1)) hi' hm' nx' := fun r hr => by subst hr; exact hQ0
  clear hQ0
  have hXX : zX hi hi := zX.rf
  have hFr : lFr X hm hm := lFr.rf
  refine zM_of (by decide +kernel) (Nat.le_of_ble_eq_true rfl) ?_
  unfold w_like at h
  refine zV_eq (lo2 := [(0, .ref al), (1, .int x1), (2, .int x2)]) rfl rfl rfl rfl ?_
  refine zV_blk (pc' := 2) (lo' := [(0, .ref al), (1, .int x1), (2, .int x2)]) (st' := [.int x1, .ref al]) [.aload_n 0, .iload_n 1] (by decide +kernel) rfl ?_
  obtain ⟨v1, hv1, h⟩ := zbind h
  refine zV_designAt (idx := 105) (rest := []) v1 hv1 hW.ld (zT_mem 603 (by decide +kernel) rfl) rfl (Nat.le_of_ble_eq_true rfl) ⟨by decide, by decide⟩ (by decide +kernel) (fun hx => ?_) (fun b2 z3 hx ho4 => ?_)
  · rw [hx] at h; replace h := zOm_none h
    refine zV_blk (pc' := 8) (lo' := [(3, .null), (0, .ref al), (1, .int x1), (2, .int x2)]) (st' := [.int x2, .ref al]) [.astore_n 3, .aload_n 0, .iload_n 2] (by decide +kernel) rfl ?_
    obtain ⟨v5, hv5, h⟩ := zbind h
    refine zV_designAt (idx := 105) (rest := []) v5 hv5 hW.ld (zT_mem 603 (by decide +kernel) rfl) rfl (Nat.le_of_ble_eq_true rfl) ⟨by decide, by decide⟩ (by decide +kernel) (fun hx => ?_) (fun b6 z7 hx ho8 => ?_)
    · rw [hx] at h; replace h := zOm_none h
      refine zV_blk (pc' := 14) (lo' := [(4, .null), (3, .null), (0, .ref al), (1, .int x1), (2, .int x2)]) (st' := [.null]) [.astore 4, .aload_n 3] (by decide +kernel) rfl ?_
      refine zV_ifnull (r := none) (tgt := 22) (off := 8) (by decide +kernel) (by decide) (fun _ => ?_) (fun _ q => by cases q)
      refine zV_less (mc' := 0) (ms' := 0) (by decide) (by decide) ?_
      refine zV_blk (pc' := 23) (lo' := [(4, .null), (3, .null), (0, .ref al), (1, .int x1), (2, .int x2)]) (st' := [.int (-1)]) [.iconst (-1)] (by decide +kernel) rfl ?_
      obtain rfl := Option.some.inj h
      exact zV_iret rfl (by decide +kernel) (hQ _ rfl _ _ _ hXX hW hFr)
    · rw [hx] at h; replace h := zOm_some h
      refine zV_blk (pc' := 14) (lo' := [(4, .ref b6), (3, .null), (0, .ref al), (1, .int x1), (2, .int x2)]) (st' := [.null]) [.astore 4, .aload_n 3] (by decide +kernel) rfl ?_
      refine zV_ifnull (r := none) (tgt := 22) (off := 8) (by decide +kernel) (by decide) (fun _ => ?_) (fun _ q => by cases q)
      refine zV_less (mc' := 0) (ms' := 0) (by decide) (by decide) ?_
      refine zV_blk (pc' := 23) (lo' := [(4, .ref b6), (3, .null), (0, .ref al), (1, .int x1), (2, .int x2)]) (st' := [.int (-1)]) [.iconst (-1)] (by decide +kernel) rfl ?_
      obtain rfl := Option.some.inj h
      exact zV_iret rfl (by decide +kernel) (hQ _ rfl _ _ _ hXX hW hFr)
  · rw [hx] at h; replace h := zOm_some h
    refine zV_blk (pc' := 8) (lo' := [(3, .ref b2), (0, .ref al), (1, .int x1), (2, .int x2)]) (st' := [.int x2, .ref al]) [.astore_n 3, .aload_n 0, .iload_n 2] (by decide +kernel) rfl ?_
    obtain ⟨v9, hv9, h⟩ := zbind h
    refine zV_designAt (idx := 105) (rest := []) v9 hv9 hW.ld (zT_mem 603 (by decide +kernel) rfl) rfl (Nat.le_of_ble_eq_true rfl) ⟨by decide, by decide⟩ (by decide +kernel) (fun hx => ?_) (fun b10 z11 hx ho12 => ?_)
    · rw [hx] at h; replace h := zOm_none h
      refine zV_blk (pc' := 14) (lo' := [(4, .null), (3, .ref b2), (0, .ref al), (1, .int x1), (2, .int x2)]) (st' := [.ref b2]) [.astore 4, .aload_n 3] (by decide +kernel) rfl ?_
      refine zV_ifnull (r := some b2) (tgt := 22) (off := 8) (by decide +kernel) (by decide) (fun q => by cases q) (fun _ _ => ?_)
      refine zV_blk (pc' := 19) (lo' := [(4, .null), (3, .ref b2), (0, .ref al), (1, .int x1), (2, .int x2)]) (st' := [.null]) [.aload 4] (by decide +kernel) rfl ?_
      refine zV_ifnonnull (r := none) (tgt := 24) (off := 5) (by decide +kernel) (by decide) (fun _ q => by cases q) (fun _ => ?_)
      refine zV_less (mc' := 0) (ms' := 0) (by decide) (by decide) ?_
      refine zV_blk (pc' := 23) (lo' := [(4, .null), (3, .ref b2), (0, .ref al), (1, .int x1), (2, .int x2)]) (st' := [.int (-1)]) [.iconst (-1)] (by decide +kernel) rfl ?_
      obtain rfl := Option.some.inj h
      exact zV_iret rfl (by decide +kernel) (hQ _ rfl _ _ _ hXX hW hFr)
    · rw [hx] at h; replace h := zOm_some h
      refine zV_blk (pc' := 14) (lo' := [(4, .ref b10), (3, .ref b2), (0, .ref al), (1, .int x1), (2, .int x2)]) (st' := [.ref b2]) [.astore 4, .aload_n 3] (by decide +kernel) rfl ?_
      refine zV_ifnull (r := some b2) (tgt := 22) (off := 8) (by decide +kernel) (by decide) (fun q => by cases q) (fun _ _ => ?_)
      refine zV_blk (pc' := 19) (lo' := [(4, .ref b10), (3, .ref b2), (0, .ref al), (1, .int x1), (2, .int x2)]) (st' := [.ref b10]) [.aload 4] (by decide +kernel) rfl ?_
      refine zV_ifnonnull (r := some b10) (tgt := 24) (off := 5) (by decide +kernel) (by decide) (fun _ _ => ?_) (fun q => by cases q)
      refine zV_blk (pc' := 25) (lo' := [(4, .ref b10), (3, .ref b2), (0, .ref al), (1, .int x1), (2, .int x2)]) (st' := [.ref b2]) [.aload_n 3] (by decide +kernel) rfl ?_
      obtain ⟨b13, b14, b15, hc16, hc17, hc18, hc19⟩ := ho4
      refine zV_get (ci := 0) (idx := 95) (k := 1) (N := 3) (fs := [.ref b13, .ref b14, .ref b15]) (v := .ref b14) (Or.inl hc16) rfl z_in0 (by decide) (zT_mem 566 (by decide +kernel) rfl) rfl (by decide +kernel) ?_
      obtain ⟨v20, hv20, h⟩ := zbind h
      refine dc_cycle s0 D cB cI cJ cD (idx := 99) z3.2.1 b14 v20 hv20 hc18 (zT_mem 581 (by decide +kernel) rfl) (rest := []) rfl (Nat.le_of_ble_eq_true rfl) ⟨by decide, by decide⟩ (by decide +kernel) ?_
      refine zV_eq (st2 := [.int v20]) rfl rfl rfl rfl ?_
      refine zV_blk (pc' := 37) (lo' := [(5, .int v20), (4, .ref b10), (3, .ref b2), (0, .ref al), (1, .int x1), (2, .int x2)]) (st' := [.ref b10, .int v20]) [.istore 5, .iload 5, .aload 4] (by decide +kernel) rfl ?_
      obtain ⟨b21, b22, b23, hc24, hc25, hc26, hc27⟩ := ho12
      refine zV_get (ci := 0) (idx := 95) (k := 1) (N := 3) (fs := [.ref b21, .ref b22, .ref b23]) (v := .ref b22) (Or.inl hc24) rfl z_in0 (by decide) (zT_mem 566 (by decide +kernel) rfl) rfl (by decide +kernel) ?_
      obtain ⟨v28, hv28, h⟩ := zbind h
      refine dc_cycle s0 D cB cI cJ cD (idx := 99) z11.2.1 b22 v28 hv28 hc26 (zT_mem 581 (by decide +kernel) rfl) (rest := [.int v20]) rfl (Nat.le_of_ble_eq_true rfl) ⟨by decide, by decide⟩ (by decide +kernel) ?_
      refine zV_eq (st2 := [.int v28, .int v20]) rfl rfl rfl rfl ?_
      refine zV_icmp_ne (tgt := 54) (off := 11) (by decide +kernel) (by decide) (fun q => ?_) (fun q => ?_)
      · replace h := zif_neg q h
        clear q
        refine zV_less (mc' := 0) (ms' := 0) (by decide) (by decide) ?_
        refine zV_blk (pc' := 55) (lo' := [(5, .int v20), (4, .ref b10), (3, .ref b2), (0, .ref al), (1, .int x1), (2, .int x2)]) (st' := [.int (-1)]) [.iconst (-1)] (by decide +kernel) rfl ?_
        obtain rfl := Option.some.inj h
        exact zV_iret rfl (by decide +kernel) (hQ _ rfl _ _ _ hXX hW hFr)
      · replace h := zif_pos q h
        clear q
        refine zV_blk (pc' := 51) (lo' := [(5, .int v20), (4, .ref b10), (3, .ref b2), (0, .ref al), (1, .int x1), (2, .int x2)]) (st' := [.int 9999, .int v20]) [.iload 5, .sipush 9999] (by decide +kernel) rfl ?_
        refine zV_icmp_le (tgt := 56) (off := 5) (by decide +kernel) (by decide) (fun q => ?_) (fun q => ?_)
        · replace h := zif_pos q h
          clear q
          refine zV_blk (pc' := 58) (lo' := [(5, .int v20), (4, .ref b10), (3, .ref b2), (0, .ref al), (1, .int x1), (2, .int x2)]) (st' := [.ref b2, .ref al]) [.aload_n 0, .aload_n 3] (by decide +kernel) rfl ?_
          refine zV_get (ci := 0) (idx := 95) (k := 1) (N := 3) (fs := [.ref b13, .ref b14, .ref b15]) (v := .ref b14) (Or.inl hc16) rfl z_in0 (by decide) (zT_mem 566 (by decide +kernel) rfl) rfl (by decide +kernel) ?_
          refine zV_blk (pc' := 63) (lo' := [(5, .int v20), (4, .ref b10), (3, .ref b2), (0, .ref al), (1, .int x1), (2, .int x2)]) (st' := [.int v20, .ref b14, .ref al]) [.iload 5] (by decide +kernel) rfl ?_
          obtain ⟨v29, hv29, h⟩ := zbind h
          refine l_call (mc := 0) (ms := 0) (idx := 372) (As := [.ref b14, .int v20]) (rest := []) hW (fun Q2 hQ2 => cw_fillBorders s0 D X cB cI cJ cD al l1 l2 l3 l4 l5 A tp dv cs cv jv bo hg lw sb n z3.2.1 v20 b14 v29 hv29 hW hc18  hQ2) oX11_fillBorders rfl (zT_mem 1356 (by decide +kernel) rfl) (zT_mem 1358 (by decide +kernel) rfl) (zT_mem 15 (by decide +kernel) rfl) rfl rfl (Nat.le_of_ble_eq_true rfl) ⟨by decide, by decide⟩ (by decide +kernel) ?_
          intro hi2 hm2 nx30 hX hW2 hFr2
          replace hc24 := hX _ _ hc24
          replace hc25 := hc25.mono hX
          replace hc26 := hc26.mono hX
          replace hc27 := hc27.mono hX
          replace hc16 := hX _ _ hc16
          replace hc17 := hc17.mono hX
          replace hc18 := hc18.mono hX
          replace hc19 := hc19.mono hX
          clear hW; have hW := hW2; clear hW2
          replace hXX := hXX.tr hX; clear hX
          replace hFr := hFr.tr hFr2; clear hFr2
          refine zV_eq (st2 := []) rfl rfl rfl rfl ?_
          refine zV_blk (pc' := 68) (lo' := [(5, .int v20), (4, .ref b10), (3, .ref b2), (0, .ref al), (1, .int x1), (2, .int x2)]) (st' := [.ref b2, .ref al]) [.aload_n 0, .aload_n 3] (by decide +kernel) rfl ?_
          refine zV_get (ci := 0) (idx := 95) (k := 1) (N := 3) (fs := [.ref b13, .ref b14, .ref b15]) (v := .ref b14) (Or.inl hc16) rfl z_in0 (by decide) (zT_mem 566 (by decide +kernel) rfl) rfl (by decide +kernel) ?_
          refine zV_blk (pc' := 73) (lo' := [(5, .int v20), (4, .ref b10), (3, .ref b2), (0, .ref al), (1, .int x1), (2, .int x2)]) (st' := [.ref b10, .ref b14, .ref al]) [.aload 4] (by decide +kernel) rfl ?_
          refine zV_get (ci := 0) (idx := 95) (k := 1) (N := 3) (fs := [.ref b21, .ref b22, .ref b23]) (v := .ref b22) (Or.inl hc24) rfl z_in0 (by decide) (zT_mem 566 (by decide +kernel) rfl) rfl (by decide +kernel) ?_
          refine zV_blk (pc' := 78) (lo' := [(5, .int v20), (4, .ref b10), (3, .ref b2), (0, .ref al), (1, .int x1), (2, .int x2)]) (st' := [.int v20, .ref b22, .ref b14, .ref al]) [.iload 5] (by decide +kernel) rfl ?_
          obtain ⟨v31, hv31, h⟩ := zbind h
          refine l_call (mc := 0) (ms := 0) (idx := 376) (As := [.ref b14, .ref b22, .int v20]) (rest := []) hW (fun Q2 hQ2 => cw_placeInRound s0 D X cB cI cJ cD al l1 l2 l3 l4 l5 A tp dv cs cv jv v29 hg lw sb n z3.2.1 z11.2.1 v20 b14 b22 v31 hv31 hW hc18 hc26  hQ2) oX11_placeInRound rfl (zT_mem 1364 (by decide +kernel) rfl) (zT_mem 1366 (by decide +kernel) rfl) (zT_mem 17 (by decide +kernel) rfl) rfl rfl (Nat.le_of_ble_eq_true rfl) ⟨by decide, by decide⟩ (by decide +kernel) ?_
          intro hi2 hm2 nx32 hX hW2 hFr2
          replace hc24 := hX _ _ hc24
          replace hc25 := hc25.mono hX
          replace hc26 := hc26.mono hX
          replace hc27 := hc27.mono hX
          replace hc16 := hX _ _ hc16
          replace hc17 := hc17.mono hX
          replace hc18 := hc18.mono hX
          replace hc19 := hc19.mono hX
          clear hW; have hW := hW2; clear hW2
          replace hXX := hXX.tr hX; clear hX
          replace hFr := hFr.tr hFr2; clear hFr2
          refine zV_eq (st2 := [.int v31]) rfl rfl rfl rfl ?_
          obtain rfl := Option.some.inj h
          exact zV_iret rfl (by decide +kernel) (hQ _ rfl _ _ _ hXX hW hFr)
        · replace h := zif_neg q h
          clear q
          refine zV_less (mc' := 0) (ms' := 0) (by decide) (by decide) ?_
          refine zV_blk (pc' := 55) (lo' := [(5, .int v20), (4, .ref b10), (3, .ref b2), (0, .ref al), (1, .int x1), (2, .int x2)]) (st' := [.int (-1)]) [.iconst (-1)] (by decide +kernel) rfl ?_
          obtain rfl := Option.some.inj h
          exact zV_iret rfl (by decide +kernel) (hQ _ rfl _ _ _ hXX hW hFr)
set_option maxHeartbeats 4000000 in
set_option maxRecDepth 100000 in
theorem cw_likeS (s0 : State) (D : va_G) (X : Nat → Prop) (cB cI cJ cD : ClassId) (al l1 l2 l3 l4 l5 : Nat) (A : Nat → Int32) (tp : Nat → Int32) (dv : Nat → Option vDes) (cs : Nat → Int32) (cv : Nat → Option vDes) (jv : Option vJoint) (bo : Option (Nat → Int32)) (hg : Option (Nat → Int64)) (lw : Option (Nat → Int64)) (sb : vSB) (n : Nat) (x1 : Int32) (x2 : Int32) (x : Int32 × (Option (Nat → Int32))) (h : w_like n dv bo x1 x2 = some x) {hi hm : zHp} {nx : Nat} {Q : Option Value → zHp → zHp → Nat → Prop} (hW : lW X cB cI cJ cD al l1 l2 l3 l4 l5 A tp dv cs cv jv bo hg lw sb hi hm) (hb_bo : bo ≠ none) (hQ0 : ∀ (hi' hm' : zHp) (nx' : Nat), zX hi hi' → lW X cB cI cJ cD al l1 l2 l3 l4 l5 A tp dv cs cv jv x.2 hg lw sb hi' hm' → lFr X hm hm' → Q (some (.int x.1)) hi' hm' nx') : zM s0 D (zty cB cI cJ cD) yX11_like cX11_like 6 (some .int) 4 94 0 0 [.ref al, .int x1, .int x2] hi hm nx Q := by
  have hQ : ∀ r : Int32 × (Option (Nat → Int32)), x = r → ∀ (hi' hm' : zHp) (nx' : Nat), zX hi hi' → lW X cB cI cJ cD al l1 l2 l3 l4 l5 A tp dv cs cv jv r.2 hg lw sb hi' hm' → lFr X hm hm' → Q (some (.int r.1)) hi' hm' nx' := fun r hr => by subst hr; exact hQ0
  clear hQ0
  have hXX : zX hi hi := zX.rf
  have hFr : lFr X hm hm := lFr.rf
  refine zM_of (by decide +kernel) (Nat.le_of_ble_eq_true rfl) ?_
  unfold w_like at h
  refine zV_eq (lo2 := [(0, .ref al), (1, .int x1), (2, .int x2)]) rfl rfl rfl rfl ?_
  refine zV_blk (pc' := 2) (lo' := [(0, .ref al), (1, .int x1), (2, .int x2)]) (st' := [.int x1, .ref al]) [.aload_n 0, .iload_n 1] (by decide +kernel) rfl ?_
  obtain ⟨v1, hv1, h⟩ := zbind h
  refine zV_designAt (idx := 105) (rest := []) v1 hv1 hW.ld (zT_mem 603 (by decide +kernel) rfl) rfl (Nat.le_of_ble_eq_true rfl) ⟨by decide, by decide⟩ (by decide +kernel) (fun hx => ?_) (fun b2 z3 hx ho4 => ?_)
  · rw [hx] at h; replace h := zOm_none h
    refine zV_blk (pc' := 8) (lo' := [(3, .null), (0, .ref al), (1, .int x1), (2, .int x2)]) (st' := [.int x2, .ref al]) [.astore_n 3, .aload_n 0, .iload_n 2] (by decide +kernel) rfl ?_
    obtain ⟨v5, hv5, h⟩ := zbind h
    refine zV_designAt (idx := 105) (rest := []) v5 hv5 hW.ld (zT_mem 603 (by decide +kernel) rfl) rfl (Nat.le_of_ble_eq_true rfl) ⟨by decide, by decide⟩ (by decide +kernel) (fun hx => ?_) (fun b6 z7 hx ho8 => ?_)
    · rw [hx] at h; replace h := zOm_none h
      refine zV_blk (pc' := 14) (lo' := [(4, .null), (3, .null), (0, .ref al), (1, .int x1), (2, .int x2)]) (st' := [.null]) [.astore 4, .aload_n 3] (by decide +kernel) rfl ?_
      refine zV_ifnull (r := none) (tgt := 22) (off := 8) (by decide +kernel) (by decide) (fun _ => ?_) (fun _ q => by cases q)
      refine zV_blk (pc' := 23) (lo' := [(4, .null), (3, .null), (0, .ref al), (1, .int x1), (2, .int x2)]) (st' := [.int (-1)]) [.iconst (-1)] (by decide +kernel) rfl ?_
      obtain rfl := Option.some.inj h
      exact zV_iret rfl (by decide +kernel) (hQ _ rfl _ _ _ hXX hW hFr)
    · rw [hx] at h; replace h := zOm_some h
      refine zV_blk (pc' := 14) (lo' := [(4, .ref b6), (3, .null), (0, .ref al), (1, .int x1), (2, .int x2)]) (st' := [.null]) [.astore 4, .aload_n 3] (by decide +kernel) rfl ?_
      refine zV_ifnull (r := none) (tgt := 22) (off := 8) (by decide +kernel) (by decide) (fun _ => ?_) (fun _ q => by cases q)
      refine zV_blk (pc' := 23) (lo' := [(4, .ref b6), (3, .null), (0, .ref al), (1, .int x1), (2, .int x2)]) (st' := [.int (-1)]) [.iconst (-1)] (by decide +kernel) rfl ?_
      obtain rfl := Option.some.inj h
      exact zV_iret rfl (by decide +kernel) (hQ _ rfl _ _ _ hXX hW hFr)
  · rw [hx] at h; replace h := zOm_some h
    refine zV_blk (pc' := 8) (lo' := [(3, .ref b2), (0, .ref al), (1, .int x1), (2, .int x2)]) (st' := [.int x2, .ref al]) [.astore_n 3, .aload_n 0, .iload_n 2] (by decide +kernel) rfl ?_
    obtain ⟨v9, hv9, h⟩ := zbind h
    refine zV_designAt (idx := 105) (rest := []) v9 hv9 hW.ld (zT_mem 603 (by decide +kernel) rfl) rfl (Nat.le_of_ble_eq_true rfl) ⟨by decide, by decide⟩ (by decide +kernel) (fun hx => ?_) (fun b10 z11 hx ho12 => ?_)
    · rw [hx] at h; replace h := zOm_none h
      refine zV_blk (pc' := 14) (lo' := [(4, .null), (3, .ref b2), (0, .ref al), (1, .int x1), (2, .int x2)]) (st' := [.ref b2]) [.astore 4, .aload_n 3] (by decide +kernel) rfl ?_
      refine zV_ifnull (r := some b2) (tgt := 22) (off := 8) (by decide +kernel) (by decide) (fun q => by cases q) (fun _ _ => ?_)
      refine zV_blk (pc' := 19) (lo' := [(4, .null), (3, .ref b2), (0, .ref al), (1, .int x1), (2, .int x2)]) (st' := [.null]) [.aload 4] (by decide +kernel) rfl ?_
      refine zV_ifnonnull (r := none) (tgt := 24) (off := 5) (by decide +kernel) (by decide) (fun _ q => by cases q) (fun _ => ?_)
      refine zV_blk (pc' := 23) (lo' := [(4, .null), (3, .ref b2), (0, .ref al), (1, .int x1), (2, .int x2)]) (st' := [.int (-1)]) [.iconst (-1)] (by decide +kernel) rfl ?_
      obtain rfl := Option.some.inj h
      exact zV_iret rfl (by decide +kernel) (hQ _ rfl _ _ _ hXX hW hFr)
    · rw [hx] at h; replace h := zOm_some h
      refine zV_blk (pc' := 14) (lo' := [(4, .ref b10), (3, .ref b2), (0, .ref al), (1, .int x1), (2, .int x2)]) (st' := [.ref b2]) [.astore 4, .aload_n 3] (by decide +kernel) rfl ?_
      refine zV_ifnull (r := some b2) (tgt := 22) (off := 8) (by decide +kernel) (by decide) (fun q => by cases q) (fun _ _ => ?_)
      refine zV_blk (pc' := 19) (lo' := [(4, .ref b10), (3, .ref b2), (0, .ref al), (1, .int x1), (2, .int x2)]) (st' := [.ref b10]) [.aload 4] (by decide +kernel) rfl ?_
      refine zV_ifnonnull (r := some b10) (tgt := 24) (off := 5) (by decide +kernel) (by decide) (fun _ _ => ?_) (fun q => by cases q)
      refine zV_blk (pc' := 25) (lo' := [(4, .ref b10), (3, .ref b2), (0, .ref al), (1, .int x1), (2, .int x2)]) (st' := [.ref b2]) [.aload_n 3] (by decide +kernel) rfl ?_
      obtain ⟨b13, b14, b15, hc16, hc17, hc18, hc19⟩ := ho4
      refine zV_get (ci := 0) (idx := 95) (k := 1) (N := 3) (fs := [.ref b13, .ref b14, .ref b15]) (v := .ref b14) (Or.inl hc16) rfl z_in0 (by decide) (zT_mem 566 (by decide +kernel) rfl) rfl (by decide +kernel) ?_
      obtain ⟨v20, hv20, h⟩ := zbind h
      refine dc_cycle s0 D cB cI cJ cD (idx := 99) z3.2.1 b14 v20 hv20 hc18 (zT_mem 581 (by decide +kernel) rfl) (rest := []) rfl (Nat.le_of_ble_eq_true rfl) ⟨by decide, by decide⟩ (by decide +kernel) ?_
      refine zV_eq (st2 := [.int v20]) rfl rfl rfl rfl ?_
      refine zV_blk (pc' := 37) (lo' := [(5, .int v20), (4, .ref b10), (3, .ref b2), (0, .ref al), (1, .int x1), (2, .int x2)]) (st' := [.ref b10, .int v20]) [.istore 5, .iload 5, .aload 4] (by decide +kernel) rfl ?_
      obtain ⟨b21, b22, b23, hc24, hc25, hc26, hc27⟩ := ho12
      refine zV_get (ci := 0) (idx := 95) (k := 1) (N := 3) (fs := [.ref b21, .ref b22, .ref b23]) (v := .ref b22) (Or.inl hc24) rfl z_in0 (by decide) (zT_mem 566 (by decide +kernel) rfl) rfl (by decide +kernel) ?_
      obtain ⟨v28, hv28, h⟩ := zbind h
      refine dc_cycle s0 D cB cI cJ cD (idx := 99) z11.2.1 b22 v28 hv28 hc26 (zT_mem 581 (by decide +kernel) rfl) (rest := [.int v20]) rfl (Nat.le_of_ble_eq_true rfl) ⟨by decide, by decide⟩ (by decide +kernel) ?_
      refine zV_eq (st2 := [.int v28, .int v20]) rfl rfl rfl rfl ?_
      refine zV_icmp_ne (tgt := 54) (off := 11) (by decide +kernel) (by decide) (fun q => ?_) (fun q => ?_)
      · replace h := zif_neg q h
        clear q
        refine zV_blk (pc' := 55) (lo' := [(5, .int v20), (4, .ref b10), (3, .ref b2), (0, .ref al), (1, .int x1), (2, .int x2)]) (st' := [.int (-1)]) [.iconst (-1)] (by decide +kernel) rfl ?_
        obtain rfl := Option.some.inj h
        exact zV_iret rfl (by decide +kernel) (hQ _ rfl _ _ _ hXX hW hFr)
      · replace h := zif_pos q h
        clear q
        refine zV_blk (pc' := 51) (lo' := [(5, .int v20), (4, .ref b10), (3, .ref b2), (0, .ref al), (1, .int x1), (2, .int x2)]) (st' := [.int 9999, .int v20]) [.iload 5, .sipush 9999] (by decide +kernel) rfl ?_
        refine zV_icmp_le (tgt := 56) (off := 5) (by decide +kernel) (by decide) (fun q => ?_) (fun q => ?_)
        · replace h := zif_pos q h
          clear q
          refine zV_blk (pc' := 58) (lo' := [(5, .int v20), (4, .ref b10), (3, .ref b2), (0, .ref al), (1, .int x1), (2, .int x2)]) (st' := [.ref b2, .ref al]) [.aload_n 0, .aload_n 3] (by decide +kernel) rfl ?_
          refine zV_get (ci := 0) (idx := 95) (k := 1) (N := 3) (fs := [.ref b13, .ref b14, .ref b15]) (v := .ref b14) (Or.inl hc16) rfl z_in0 (by decide) (zT_mem 566 (by decide +kernel) rfl) rfl (by decide +kernel) ?_
          refine zV_blk (pc' := 63) (lo' := [(5, .int v20), (4, .ref b10), (3, .ref b2), (0, .ref al), (1, .int x1), (2, .int x2)]) (st' := [.int v20, .ref b14, .ref al]) [.iload 5] (by decide +kernel) rfl ?_
          obtain ⟨v29, hv29, h⟩ := zbind h
          refine l_call (mc := 0) (ms := 0) (idx := 372) (As := [.ref b14, .int v20]) (rest := []) hW (fun Q2 hQ2 => cw_fillBordersS s0 D X cB cI cJ cD al l1 l2 l3 l4 l5 A tp dv cs cv jv bo hg lw sb n z3.2.1 v20 b14 v29 hv29 hW hc18 hb_bo hQ2) oX11_fillBorders rfl (zT_mem 1356 (by decide +kernel) rfl) (zT_mem 1358 (by decide +kernel) rfl) (zT_mem 15 (by decide +kernel) rfl) rfl rfl (Nat.le_of_ble_eq_true rfl) ⟨by decide, by decide⟩ (by decide +kernel) ?_
          intro hi2 hm2 nx30 hX hW2 hFr2
          replace hc24 := hX _ _ hc24
          replace hc25 := hc25.mono hX
          replace hc26 := hc26.mono hX
          replace hc27 := hc27.mono hX
          replace hc16 := hX _ _ hc16
          replace hc17 := hc17.mono hX
          replace hc18 := hc18.mono hX
          replace hc19 := hc19.mono hX
          clear hW; have hW := hW2; clear hW2
          replace hXX := hXX.tr hX; clear hX
          replace hFr := hFr.tr hFr2; clear hFr2
          refine zV_eq (st2 := []) rfl rfl rfl rfl ?_
          refine zV_blk (pc' := 68) (lo' := [(5, .int v20), (4, .ref b10), (3, .ref b2), (0, .ref al), (1, .int x1), (2, .int x2)]) (st' := [.ref b2, .ref al]) [.aload_n 0, .aload_n 3] (by decide +kernel) rfl ?_
          refine zV_get (ci := 0) (idx := 95) (k := 1) (N := 3) (fs := [.ref b13, .ref b14, .ref b15]) (v := .ref b14) (Or.inl hc16) rfl z_in0 (by decide) (zT_mem 566 (by decide +kernel) rfl) rfl (by decide +kernel) ?_
          refine zV_blk (pc' := 73) (lo' := [(5, .int v20), (4, .ref b10), (3, .ref b2), (0, .ref al), (1, .int x1), (2, .int x2)]) (st' := [.ref b10, .ref b14, .ref al]) [.aload 4] (by decide +kernel) rfl ?_
          refine zV_get (ci := 0) (idx := 95) (k := 1) (N := 3) (fs := [.ref b21, .ref b22, .ref b23]) (v := .ref b22) (Or.inl hc24) rfl z_in0 (by decide) (zT_mem 566 (by decide +kernel) rfl) rfl (by decide +kernel) ?_
          refine zV_blk (pc' := 78) (lo' := [(5, .int v20), (4, .ref b10), (3, .ref b2), (0, .ref al), (1, .int x1), (2, .int x2)]) (st' := [.int v20, .ref b22, .ref b14, .ref al]) [.iload 5] (by decide +kernel) rfl ?_
          obtain ⟨v31, hv31, h⟩ := zbind h
          refine l_call (mc := 0) (ms := 0) (idx := 376) (As := [.ref b14, .ref b22, .int v20]) (rest := []) hW (fun Q2 hQ2 => cw_placeInRound s0 D X cB cI cJ cD al l1 l2 l3 l4 l5 A tp dv cs cv jv v29 hg lw sb n z3.2.1 z11.2.1 v20 b14 b22 v31 hv31 hW hc18 hc26  hQ2) oX11_placeInRound rfl (zT_mem 1364 (by decide +kernel) rfl) (zT_mem 1366 (by decide +kernel) rfl) (zT_mem 17 (by decide +kernel) rfl) rfl rfl (Nat.le_of_ble_eq_true rfl) ⟨by decide, by decide⟩ (by decide +kernel) ?_
          intro hi2 hm2 nx32 hX hW2 hFr2
          replace hc24 := hX _ _ hc24
          replace hc25 := hc25.mono hX
          replace hc26 := hc26.mono hX
          replace hc27 := hc27.mono hX
          replace hc16 := hX _ _ hc16
          replace hc17 := hc17.mono hX
          replace hc18 := hc18.mono hX
          replace hc19 := hc19.mono hX
          clear hW; have hW := hW2; clear hW2
          replace hXX := hXX.tr hX; clear hX
          replace hFr := hFr.tr hFr2; clear hFr2
          refine zV_eq (st2 := [.int v31]) rfl rfl rfl rfl ?_
          obtain rfl := Option.some.inj h
          exact zV_iret rfl (by decide +kernel) (hQ _ rfl _ _ _ hXX hW hFr)
        · replace h := zif_neg q h
          clear q
          refine zV_blk (pc' := 55) (lo' := [(5, .int v20), (4, .ref b10), (3, .ref b2), (0, .ref al), (1, .int x1), (2, .int x2)]) (st' := [.int (-1)]) [.iconst (-1)] (by decide +kernel) rfl ?_
          obtain rfl := Option.some.inj h
          exact zV_iret rfl (by decide +kernel) (hQ _ rfl _ _ _ hXX hW hFr)

def w_fillHeads_44 (n : Nat) (x1 : vDes) (x2 : Int32) (s : Int64 × Int64 × Int32 × (Option (Nat → Int64)) × (Option (Nat → Int64))) : Option ((Int64 × Int64 × Int32 × (Option (Nat → Int64)) × (Option (Nat → Int64))) ⊕ ((Option (Nat → Int64)) × (Option (Nat → Int64)))) := (if (x2 : Int32) ≤ (s.2.2.1 : Int32) then some (.inr (s.2.2.2.1, s.2.2.2.2)) else zOm (s.2.2.2.1) (none) (fun z2 => zck (zin (s.2.2.1) 1000) (zOm (s.2.2.2.2) (none) (fun z5 => zck (zin (s.2.2.1) 1000) ((k_slipUnits n x1 (x2 + s.2.2.1)).bind (fun v7 => (j_maxL s.1 v7).bind (fun v15 => (j_minL s.2.1 v7).bind (fun v16 => some (.inl (v15, v16, (s.2.2.1 + 1), (some (vp_updL z2 (s.2.2.1 : Int32).toNatClampNeg s.1)), (some (vp_updL z5 (s.2.2.1 : Int32).toNatClampNeg s.2.1))))))))))))
set_option maxHeartbeats 4000000 in
set_option maxRecDepth 100000 in
theorem cw_fillHeads_44 (s0 : State) (D : va_G) (X : Nat → Prop) (cB cI cJ cD : ClassId) (al l1 l2 l3 l4 l5 : Nat) (A : Nat → Int32) (tp : Nat → Int32) (dv : Nat → Option vDes) (cs : Nat → Int32) (cv : Nat → Option vDes) (jv : Option vJoint) (bo : Option (Nat → Int32)) (sb : vSB) (n : Nat) (x1 : vDes) (x2 : Int32) (a1 : Nat) (s : Int64 × Int64 × Int32 × (Option (Nat → Int64)) × (Option (Nat → Int64))) {x : (Int64 × Int64 × Int32 × (Option (Nat → Int64)) × (Option (Nat → Int64))) ⊕ ((Option (Nat → Int64)) × (Option (Nat → Int64)))} {hi0 hi hm0 hm : zHp} {nx : Nat} {Q : Option Value → zHp → zHp → Nat → Prop} (hW : lW X cB cI cJ cD al l1 l2 l3 l4 l5 A tp dv cs cv jv bo s.2.2.2.1 s.2.2.2.2 sb hi hm) (ho1 : iDes cI hi a1 x1) (hXX : zX hi0 hi) (hFr : lFr X hm0 hm) (h : w_fillHeads_44 n  x1 x2 s = some x) (hL44 : ∀ s : Int64 × Int64 × Int32 × (Option (Nat → Int64)) × (Option (Nat → Int64)), x = (.inl s) → ∀ (hi' hm' : zHp) (nx' : Nat), zX hi0 hi' → lW X cB cI cJ cD al l1 l2 l3 l4 l5 A tp dv cs cv jv bo s.2.2.2.1 s.2.2.2.2 sb hi' hm' → lFr X hm0 hm' → zV s0 D (zty cB cI cJ cD) yX11_fillHeads cX11_fillHeads 10 none 4 88 0 0 44 [(0, .ref al), (1, .ref a1), (2, .int x2), (3, .long s.1), (5, .long s.2.1), (7, .int s.2.2.1)] [] hi' hm' nx' Q) (hQ : ∀ r : (Option (Nat → Int64)) × (Option (Nat → Int64)), x = (.inr r) → ∀ (hi' hm' : zHp) (nx' : Nat), zX hi0 hi' → lW X cB cI cJ cD al l1 l2 l3 l4 l5 A tp dv cs cv jv bo r.1 r.2 sb hi' hm' → lFr X hm0 hm' → Q none hi' hm' nx') : zV s0 D (zty cB cI cJ cD) yX11_fillHeads cX11_fillHeads 10 none 4 88 0 0 44 [(0, .ref al), (1, .ref a1), (2, .int x2), (3, .long s.1), (5, .long s.2.1), (7, .int s.2.2.1)] [] hi hm nx Q := by
  unfold w_fillHeads_44 at h
  refine zV_blk (pc' := 47) (lo' := [(0, .ref al), (1, .ref a1), (2, .int x2), (3, .long s.1), (5, .long s.2.1), (7, .int s.2.2.1)]) (st' := [.int x2, .int s.2.2.1]) [.iload 7, .iload_n 2] (by decide +kernel) rfl ?_
  refine zV_icmp_ge (tgt := 99) (off := 52) (by decide +kernel) (by decide) (fun q => ?_) (fun q => ?_)
  · replace h := zif_pos q h
    clear q
    obtain rfl := Option.some.inj h
    exact zV_vret rfl (by decide +kernel) (hQ _ rfl _ _ _ hXX hW hFr)
  · replace h := zif_neg q h
    clear q
    refine zV_blk (pc' := 51) (lo' := [(0, .ref al), (1, .ref a1), (2, .int x2), (3, .long s.1), (5, .long s.2.1), (7, .int s.2.2.1)]) (st' := [.ref al]) [.aload_n 0] (by decide +kernel) rfl ?_
    refine l_getH (idx := 56) hW (zT_mem 168 (by decide +kernel) rfl) (by decide +kernel) (fun hx => ?_) (fun b1 z2 hx ho3 => ?_)
    · replace h := zOm_n hx h
      refine zV_blk (pc' := 57) (lo' := [(0, .ref al), (1, .ref a1), (2, .int x2), (3, .long s.1), (5, .long s.2.1), (7, .int s.2.2.1)]) (st' := [.long s.1, .int s.2.2.1, .null]) [.iload 7, .lload_n 3] (by decide +kernel) rfl ?_
      cases h
    · replace h := zOm_s hx h
      refine zV_blk (pc' := 57) (lo' := [(0, .ref al), (1, .ref a1), (2, .int x2), (3, .long s.1), (5, .long s.2.1), (7, .int s.2.2.1)]) (st' := [.long s.1, .int s.2.2.1, .ref b1]) [.iload 7, .lload_n 3] (by decide +kernel) rfl ?_
      obtain ⟨hz, h⟩ := zck_some h
      refine l_stH ho3 hz (by decide +kernel) (fun hm hW hFr2 => ?_)
      replace hFr := hFr.tr hFr2; clear hFr2
      refine zV_blk (pc' := 59) (lo' := [(0, .ref al), (1, .ref a1), (2, .int x2), (3, .long s.1), (5, .long s.2.1), (7, .int s.2.2.1)]) (st' := [.ref al]) [.aload_n 0] (by decide +kernel) rfl ?_
      refine l_getL (idx := 60) hW (zT_mem 169 (by decide +kernel) rfl) (by decide +kernel) (fun hx => ?_) (fun b4 z5 hx ho6 => ?_)
      · replace h := zOm_n hx h
        refine zV_blk (pc' := 66) (lo' := [(0, .ref al), (1, .ref a1), (2, .int x2), (3, .long s.1), (5, .long s.2.1), (7, .int s.2.2.1)]) (st' := [.long s.2.1, .int s.2.2.1, .null]) [.iload 7, .lload 5] (by decide +kernel) rfl ?_
        cases h
      · replace h := zOm_s hx h
        refine zV_blk (pc' := 66) (lo' := [(0, .ref al), (1, .ref a1), (2, .int x2), (3, .long s.1), (5, .long s.2.1), (7, .int s.2.2.1)]) (st' := [.long s.2.1, .int s.2.2.1, .ref b4]) [.iload 7, .lload 5] (by decide +kernel) rfl ?_
        obtain ⟨hz, h⟩ := zck_some h
        refine l_stL ho6 hz (by decide +kernel) (fun hm hW hFr2 => ?_)
        replace hFr := hFr.tr hFr2; clear hFr2
        refine zV_blk (pc' := 72) (lo' := [(0, .ref al), (1, .ref a1), (2, .int x2), (3, .long s.1), (5, .long s.2.1), (7, .int s.2.2.1)]) (st' := [.int (x2 + s.2.2.1), .ref a1]) [.aload_n 1, .iload_n 2, .iload 7, .iadd] (by decide +kernel) rfl ?_
        obtain ⟨v7, hv7, h⟩ := zbind h
        obtain ⟨b8, b9, b10, hc11, hc12, hc13, hc14⟩ := ho1
        refine zV_roV (idx := 284) (rest := []) (fs := [.ref b8, .ref b9, .ref b10]) (ci := 0) (fun Q2 hQ2 => ck_slipUnits s0 D cB cI cJ cD n x1 (x2 + s.2.2.1) a1 v7 hv7 ⟨b8, b9, b10, hc11, hc12, hc13, hc14⟩ hQ2) oX0_slipUnits (Or.inl hc11) rfl (zT_mem 1176 (by decide +kernel) rfl) (zT_mem 1123 (by decide +kernel) rfl) (zT_mem 1124 (by decide +kernel) rfl) rfl rfl (Nat.le_of_ble_eq_true rfl) ⟨by decide, by decide⟩ (by decide +kernel) ?_
        refine zV_eq (st2 := [.long v7]) rfl rfl rfl rfl ?_
        refine zV_blk (pc' := 80) (lo' := [(8, .long v7), (0, .ref al), (1, .ref a1), (2, .int x2), (3, .long s.1), (5, .long s.2.1), (7, .int s.2.2.1)]) (st' := [.long v7, .long s.1]) [.lstore 8, .lload_n 3, .lload 8] (by decide +kernel) rfl ?_
        obtain ⟨v15, hv15, h⟩ := zbind h
        refine zV_roS (idx := 289) (rest := []) (fun Q2 hQ2 => cj_maxL s0 D cB cI cJ cD s.1 v7  v15 hv15  hQ2) oJ9_max_f86c9 (zT_mem 1177 (by decide +kernel) rfl) (zT_mem 696 (by decide +kernel) rfl) rfl rfl (Nat.le_of_ble_eq_true rfl) ⟨by decide, by decide⟩ (by decide +kernel) ?_
        refine zV_eq (st2 := [.long v15]) rfl rfl rfl rfl ?_
        refine zV_blk (pc' := 88) (lo' := [(3, .long v15), (8, .long v7), (0, .ref al), (1, .ref a1), (2, .int x2), (5, .long s.2.1), (7, .int s.2.2.1)]) (st' := [.long v7, .long s.2.1]) [.lstore_n 3, .lload 5, .lload 8] (by decide +kernel) rfl ?_
        obtain ⟨v16, hv16, h⟩ := zbind h
        refine zV_roS (idx := 292) (rest := []) (fun Q2 hQ2 => cj_minL s0 D cB cI cJ cD s.2.1 v7  v16 hv16  hQ2) oJ9_min_f86c9 (zT_mem 1178 (by decide +kernel) rfl) (zT_mem 1179 (by decide +kernel) rfl) rfl rfl (Nat.le_of_ble_eq_true rfl) ⟨by decide, by decide⟩ (by decide +kernel) ?_
        refine zV_eq (st2 := [.long v16]) rfl rfl rfl rfl ?_
        refine zV_blk (pc' := 96) (lo' := [(7, .int (s.2.2.1 + 1)), (5, .long v16), (3, .long v15), (8, .long v7), (0, .ref al), (1, .ref a1), (2, .int x2)]) (st' := []) [.lstore 5, .iinc 7 1] (by decide +kernel) rfl ?_
        refine zV_goto (tgt := 44) (off := -52) (by decide +kernel) (by decide) ?_
        obtain rfl := Option.some.inj h
        refine zV_pick (lo2 := [(0, .ref al), (1, .ref a1), (2, .int x2), (3, .long v15), (5, .long v16), (7, .int (s.2.2.1 + 1))]) [4, 5, 6, 2, 1, 0] rfl ?_
        exact hL44 _ rfl _ _ _ hXX hW hFr
theorem cw_fillHeads_44L (s0 : State) (D : va_G) (X : Nat → Prop) (cB cI cJ cD : ClassId) (al l1 l2 l3 l4 l5 : Nat) (A : Nat → Int32) (tp : Nat → Int32) (dv : Nat → Option vDes) (cs : Nat → Int32) (cv : Nat → Option vDes) (jv : Option vJoint) (bo : Option (Nat → Int32)) (sb : vSB) (n : Nat) (x1 : vDes) (x2 : Int32) (a1 : Nat) : ∀ (k : Nat) (s : Int64 × Int64 × Int32 × (Option (Nat → Int64)) × (Option (Nat → Int64))) {hi0 hi hm0 hm : zHp} {nx : Nat} {Q : Option Value → zHp → zHp → Nat → Prop} (_ : lW X cB cI cJ cD al l1 l2 l3 l4 l5 A tp dv cs cv jv bo s.2.2.2.1 s.2.2.2.2 sb hi hm) (ho1 : iDes cI hi a1 x1) (_ : zX hi0 hi) (_ : lFr X hm0 hm) {x : (Option (Nat → Int64)) × (Option (Nat → Int64))} (_ : zloop (w_fillHeads_44 n  x1 x2) k s = some x) (hQ : ∀ r : (Option (Nat → Int64)) × (Option (Nat → Int64)), x = r → ∀ (hi' hm' : zHp) (nx' : Nat), zX hi0 hi' → lW X cB cI cJ cD al l1 l2 l3 l4 l5 A tp dv cs cv jv bo r.1 r.2 sb hi' hm' → lFr X hm0 hm' → Q none hi' hm' nx'), zV s0 D (zty cB cI cJ cD) yX11_fillHeads cX11_fillHeads 10 none 4 88 0 0 44 [(0, .ref al), (1, .ref a1), (2, .int x2), (3, .long s.1), (5, .long s.2.1), (7, .int s.2.2.1)] [] hi hm nx Q
  | 0, s, _, _, _, _, _, _, _, _, _, _, _, h, _ => by cases h
  | k + 1, s, hi0, hi, hm0, hm, nx, Q, hW, ho1, hXX, hFr, x, h, hQ => by
    obtain ⟨z, hz, h1, h2⟩ := zloop_succ h
    exact cw_fillHeads_44 s0 D X cB cI cJ cD al l1 l2 l3 l4 l5 A tp dv cs cv jv bo sb n x1 x2 a1 s hW ho1 zX.rf hFr hz (fun s' hs hi' hm' nx' hX hW' hFr' => cw_fillHeads_44L s0 D X cB cI cJ cD al l1 l2 l3 l4 l5 A tp dv cs cv jv bo sb n x1 x2 a1 k s' hW' (ho1.mono hX) (hXX.tr hX) hFr' (h1 s' hs) hQ) (fun r hr hi' hm' nx' hX hW' hFr' => hQ r (h2 _ hr).symm hi' hm' nx' (hXX.tr hX) hW' hFr')
def w_fillHeads_32 (n : Nat) (hg : Option (Nat → Int64)) (lw : Option (Nat → Int64)) (x1 : vDes) (x2 : Int32) : Option ((Option (Nat → Int64)) × (Option (Nat → Int64))) := (zloop (w_fillHeads_44 n  x1 x2) n ((-4611686018427387904), 4611686018427387904, 0, hg, lw))
set_option maxHeartbeats 4000000 in
set_option maxRecDepth 100000 in
theorem cw_fillHeads_32 (s0 : State) (D : va_G) (X : Nat → Prop) (cB cI cJ cD : ClassId) (al l1 l2 l3 l4 l5 : Nat) (A : Nat → Int32) (tp : Nat → Int32) (dv : Nat → Option vDes) (cs : Nat → Int32) (cv : Nat → Option vDes) (jv : Option vJoint) (bo : Option (Nat → Int32)) (hg : Option (Nat → Int64)) (lw : Option (Nat → Int64)) (sb : vSB) (n : Nat) (x1 : vDes) (x2 : Int32) (a1 : Nat) {x : (Option (Nat → Int64)) × (Option (Nat → Int64))} {hi0 hi hm0 hm : zHp} {nx : Nat} {Q : Option Value → zHp → zHp → Nat → Prop} (hW : lW X cB cI cJ cD al l1 l2 l3 l4 l5 A tp dv cs cv jv bo hg lw sb hi hm) (ho1 : iDes cI hi a1 x1) (hXX : zX hi0 hi) (hFr : lFr X hm0 hm) (h : w_fillHeads_32 n hg lw x1 x2 = some x) (hQ : ∀ r : (Option (Nat → Int64)) × (Option (Nat → Int64)), x = r → ∀ (hi' hm' : zHp) (nx' : Nat), zX hi0 hi' → lW X cB cI cJ cD al l1 l2 l3 l4 l5 A tp dv cs cv jv bo r.1 r.2 sb hi' hm' → lFr X hm0 hm' → Q none hi' hm' nx') : zV s0 D (zty cB cI cJ cD) yX11_fillHeads cX11_fillHeads 10 none 4 88 0 0 32 [(0, .ref al), (1, .ref a1), (2, .int x2)] [] hi hm nx Q := by
  unfold w_fillHeads_32 at h
  refine zV_ldc2 (idx := 298) (v := (-4611686018427387904)) (zT_mem 1174 (by decide +kernel) rfl) (by decide +kernel) ?_
  refine zV_blk (pc' := 36) (lo' := [(3, .long (-4611686018427387904)), (0, .ref al), (1, .ref a1), (2, .int x2)]) (st' := []) [.lstore_n 3] (by decide +kernel) rfl ?_
  refine zV_ldc2 (idx := 287) (v := 4611686018427387904) (zT_mem 1175 (by decide +kernel) rfl) (by decide +kernel) ?_
  refine zV_blk (pc' := 44) (lo' := [(7, .int 0), (5, .long 4611686018427387904), (3, .long (-4611686018427387904)), (0, .ref al), (1, .ref a1), (2, .int x2)]) (st' := []) [.lstore 5, .iconst 0, .istore 7] (by decide +kernel) rfl ?_
  refine zV_pick (lo2 := [(0, .ref al), (1, .ref a1), (2, .int x2), (3, .long (-4611686018427387904)), (5, .long 4611686018427387904), (7, .int 0)]) [3, 4, 5, 2, 1, 0] rfl ?_
  exact cw_fillHeads_44L s0 D X cB cI cJ cD al l1 l2 l3 l4 l5 A tp dv cs cv jv bo sb n x1 x2 a1 n ((-4611686018427387904), 4611686018427387904, 0, hg, lw) hW ho1 hXX hFr h hQ
def w_fillHeads_14 (n : Nat) (hg : Option (Nat → Int64)) (lw : Option (Nat → Int64)) (x1 : vDes) (x2 : Int32) : Option ((Option (Nat → Int64)) × (Option (Nat → Int64))) := (w_fillHeads_32 n (some (fun _ => 0)) (some (fun _ => 0)) x1 x2 )
set_option maxHeartbeats 4000000 in
set_option maxRecDepth 100000 in
theorem cw_fillHeads_14 (s0 : State) (D : va_G) (X : Nat → Prop) (cB cI cJ cD : ClassId) (al l1 l2 l3 l4 l5 : Nat) (A : Nat → Int32) (tp : Nat → Int32) (dv : Nat → Option vDes) (cs : Nat → Int32) (cv : Nat → Option vDes) (jv : Option vJoint) (bo : Option (Nat → Int32)) (hg : Option (Nat → Int64)) (lw : Option (Nat → Int64)) (sb : vSB) (n : Nat) (x1 : vDes) (x2 : Int32) (a1 : Nat) {x : (Option (Nat → Int64)) × (Option (Nat → Int64))} {hi0 hi hm0 hm : zHp} {nx : Nat} {Q : Option Value → zHp → zHp → Nat → Prop} (hW : lW X cB cI cJ cD al l1 l2 l3 l4 l5 A tp dv cs cv jv bo hg lw sb hi hm) (ho1 : iDes cI hi a1 x1) (hXX : zX hi0 hi) (hFr : lFr X hm0 hm) (h : w_fillHeads_14 n hg lw x1 x2 = some x) (hQ : ∀ r : (Option (Nat → Int64)) × (Option (Nat → Int64)), x = r → ∀ (hi' hm' : zHp) (nx' : Nat), zX hi0 hi' → lW X cB cI cJ cD al l1 l2 l3 l4 l5 A tp dv cs cv jv bo r.1 r.2 sb hi' hm' → lFr X hm0 hm' → Q none hi' hm' nx') : zV s0 D (zty cB cI cJ cD) yX11_fillHeads cX11_fillHeads 10 none 4 88 2 2000 14 [(0, .ref al), (1, .ref a1), (2, .int x2)] [] hi hm nx Q := by
  unfold w_fillHeads_14 at h
  refine zV_blk (pc' := 18) (lo' := [(0, .ref al), (1, .ref a1), (2, .int x2)]) (st' := [.int 1000, .ref al]) [.aload_n 0, .sipush 1000] (by decide +kernel) rfl ?_
  refine zV_newJ (mc := 1) (ms := 1000) (n := 1000) (N := 1000) (zT_mem 1184 (by decide +kernel) rfl) (by decide) (by decide) (by decide) (by decide +kernel) (fun _ hn1 => ?_)
  obtain ⟨b2, heb2⟩ : ∃ z : Nat, z = nx := ⟨_, rfl⟩
  rw [← heb2] at hn1 ⊢
  obtain ⟨nb2, henb2⟩ : ∃ z : Nat, z = b2 + 1 := ⟨_, rfl⟩
  rw [← henb2]; clear henb2 heb2
  refine l_putH (idx := 56) hW hn1 (zT_mem 168 (by decide +kernel) rfl) (by decide +kernel) (fun hm hW hFr2 => ?_)
  replace hFr := hFr.tr hFr2; clear hFr2
  refine zV_blk (pc' := 27) (lo' := [(0, .ref al), (1, .ref a1), (2, .int x2)]) (st' := [.int 1000, .ref al]) [.aload_n 0, .sipush 1000] (by decide +kernel) rfl ?_
  refine zV_newJ (mc := 0) (ms := 0) (n := 1000) (N := 1000) (zT_mem 1184 (by decide +kernel) rfl) (by decide) (by decide) (by decide) (by decide +kernel) (fun _ hn3 => ?_)
  obtain ⟨b4, heb4⟩ : ∃ z : Nat, z = nb2 := ⟨_, rfl⟩
  rw [← heb4] at hn3 ⊢
  obtain ⟨nb4, henb4⟩ : ∃ z : Nat, z = b4 + 1 := ⟨_, rfl⟩
  rw [← henb4]; clear henb4 heb4
  refine l_putL (idx := 60) hW hn3 (zT_mem 169 (by decide +kernel) rfl) (by decide +kernel) (fun hm hW hFr2 => ?_)
  replace hFr := hFr.tr hFr2; clear hFr2
  refine zV_pick (lo2 := [(0, .ref al), (1, .ref a1), (2, .int x2)]) [0, 1, 2] rfl ?_
  exact cw_fillHeads_32 s0 D X cB cI cJ cD al l1 l2 l3 l4 l5 A tp dv cs cv jv bo (some (fun _ => 0)) (some (fun _ => 0)) sb n x1 x2  a1 hW ho1 hXX hFr h hQ
def w_fillHeads (n : Nat) (hg : Option (Nat → Int64)) (lw : Option (Nat → Int64)) (x1 : vDes) (x2 : Int32) : Option ((Option (Nat → Int64)) × (Option (Nat → Int64))) := zOm (hg) ((w_fillHeads_14 n hg lw x1 x2 )) (fun z2 => zOm (lw) ((w_fillHeads_14 n hg lw x1 x2 )) (fun z5 => (w_fillHeads_32 n hg lw x1 x2 )))
theorem oX11_fillHeads : zO yX11_fillHeads cX11_fillHeads 10 none 2 := ⟨zT_mem 1173 (by decide +kernel) rfl, zT_mem 89 (by decide +kernel) rfl, by decide +kernel, by decide +kernel, by decide +kernel⟩
set_option maxHeartbeats 4000000 in
set_option maxRecDepth 100000 in
theorem cw_fillHeads (s0 : State) (D : va_G) (X : Nat → Prop) (cB cI cJ cD : ClassId) (al l1 l2 l3 l4 l5 : Nat) (A : Nat → Int32) (tp : Nat → Int32) (dv : Nat → Option vDes) (cs : Nat → Int32) (cv : Nat → Option vDes) (jv : Option vJoint) (bo : Option (Nat → Int32)) (hg : Option (Nat → Int64)) (lw : Option (Nat → Int64)) (sb : vSB) (n : Nat) (x1 : vDes) (x2 : Int32) (a1 : Nat) (x : (Option (Nat → Int64)) × (Option (Nat → Int64))) (h : w_fillHeads n hg lw x1 x2 = some x) {hi hm : zHp} {nx : Nat} {Q : Option Value → zHp → zHp → Nat → Prop} (hW : lW X cB cI cJ cD al l1 l2 l3 l4 l5 A tp dv cs cv jv bo hg lw sb hi hm) (ho1 : iDes cI hi a1 x1) (hQ0 : ∀ (hi' hm' : zHp) (nx' : Nat), zX hi hi' → lW X cB cI cJ cD al l1 l2 l3 l4 l5 A tp dv cs cv jv bo x.1 x.2 sb hi' hm' → lFr X hm hm' → Q none hi' hm' nx') : zM s0 D (zty cB cI cJ cD) yX11_fillHeads cX11_fillHeads 10 none 4 88 2 2000 [.ref al, .ref a1, .int x2] hi hm nx Q := by
  have hQ : ∀ r : (Option (Nat → Int64)) × (Option (Nat → Int64)), x = r → ∀ (hi' hm' : zHp) (nx' : Nat), zX hi hi' → lW X cB cI cJ cD al l1 l2 l3 l4 l5 A tp dv cs cv jv bo r.1 r.2 sb hi' hm' → lFr X hm hm' → Q none hi' hm' nx' := fun r hr => by subst hr; exact hQ0
  clear hQ0
  have hXX : zX hi hi := zX.rf
  have hFr : lFr X hm hm := lFr.rf
  refine zM_of (by decide +kernel) (Nat.le_of_ble_eq_true rfl) ?_
  unfold w_fillHeads at h
  refine zV_eq (lo2 := [(0, .ref al), (1, .ref a1), (2, .int x2)]) rfl rfl rfl rfl ?_
  refine zV_blk (pc' := 1) (lo' := [(0, .ref al), (1, .ref a1), (2, .int x2)]) (st' := [.ref al]) [.aload_n 0] (by decide +kernel) rfl ?_
  refine l_getH (idx := 56) hW (zT_mem 168 (by decide +kernel) rfl) (by decide +kernel) (fun hx => ?_) (fun b1 z2 hx ho3 => ?_)
  · replace h := zOm_n hx h
    refine zV_ifnull (r := none) (tgt := 14) (off := 10) (by decide +kernel) (by decide) (fun _ => ?_) (fun _ q => by cases q)
    refine zV_pick (lo2 := [(0, .ref al), (1, .ref a1), (2, .int x2)]) [0, 1, 2] rfl ?_
    exact cw_fillHeads_14 s0 D X cB cI cJ cD al l1 l2 l3 l4 l5 A tp dv cs cv jv bo hg lw sb n x1 x2  a1 hW ho1 hXX hFr h hQ
  · replace h := zOm_s hx h
    refine zV_ifnull (r := some b1) (tgt := 14) (off := 10) (by decide +kernel) (by decide) (fun q => by cases q) (fun _ _ => ?_)
    refine zV_blk (pc' := 8) (lo' := [(0, .ref al), (1, .ref a1), (2, .int x2)]) (st' := [.ref al]) [.aload_n 0] (by decide +kernel) rfl ?_
    refine l_getL (idx := 60) hW (zT_mem 169 (by decide +kernel) rfl) (by decide +kernel) (fun hx => ?_) (fun b4 z5 hx ho6 => ?_)
    · replace h := zOm_n hx h
      refine zV_ifnonnull (r := none) (tgt := 32) (off := 21) (by decide +kernel) (by decide) (fun _ q => by cases q) (fun _ => ?_)
      refine zV_pick (lo2 := [(0, .ref al), (1, .ref a1), (2, .int x2)]) [0, 1, 2] rfl ?_
      exact cw_fillHeads_14 s0 D X cB cI cJ cD al l1 l2 l3 l4 l5 A tp dv cs cv jv bo hg lw sb n x1 x2  a1 hW ho1 hXX hFr h hQ
    · replace h := zOm_s hx h
      refine zV_ifnonnull (r := some b4) (tgt := 32) (off := 21) (by decide +kernel) (by decide) (fun _ _ => ?_) (fun q => by cases q)
      refine zV_less (mc' := 0) (ms' := 0) (by decide) (by decide) ?_
      refine zV_pick (lo2 := [(0, .ref al), (1, .ref a1), (2, .int x2)]) [0, 1, 2] rfl ?_
      exact cw_fillHeads_32 s0 D X cB cI cJ cD al l1 l2 l3 l4 l5 A tp dv cs cv jv bo hg lw sb n x1 x2  a1 hW ho1 hXX hFr h hQ
set_option maxHeartbeats 4000000 in
set_option maxRecDepth 100000 in
theorem cw_fillHeadsS (s0 : State) (D : va_G) (X : Nat → Prop) (cB cI cJ cD : ClassId) (al l1 l2 l3 l4 l5 : Nat) (A : Nat → Int32) (tp : Nat → Int32) (dv : Nat → Option vDes) (cs : Nat → Int32) (cv : Nat → Option vDes) (jv : Option vJoint) (bo : Option (Nat → Int32)) (hg : Option (Nat → Int64)) (lw : Option (Nat → Int64)) (sb : vSB) (n : Nat) (x1 : vDes) (x2 : Int32) (a1 : Nat) (x : (Option (Nat → Int64)) × (Option (Nat → Int64))) (h : w_fillHeads n hg lw x1 x2 = some x) {hi hm : zHp} {nx : Nat} {Q : Option Value → zHp → zHp → Nat → Prop} (hW : lW X cB cI cJ cD al l1 l2 l3 l4 l5 A tp dv cs cv jv bo hg lw sb hi hm) (ho1 : iDes cI hi a1 x1) (hb_hg : hg ≠ none) (hb_lw : lw ≠ none) (hQ0 : ∀ (hi' hm' : zHp) (nx' : Nat), zX hi hi' → lW X cB cI cJ cD al l1 l2 l3 l4 l5 A tp dv cs cv jv bo x.1 x.2 sb hi' hm' → lFr X hm hm' → Q none hi' hm' nx') : zM s0 D (zty cB cI cJ cD) yX11_fillHeads cX11_fillHeads 10 none 4 88 0 0 [.ref al, .ref a1, .int x2] hi hm nx Q := by
  have hQ : ∀ r : (Option (Nat → Int64)) × (Option (Nat → Int64)), x = r → ∀ (hi' hm' : zHp) (nx' : Nat), zX hi hi' → lW X cB cI cJ cD al l1 l2 l3 l4 l5 A tp dv cs cv jv bo r.1 r.2 sb hi' hm' → lFr X hm hm' → Q none hi' hm' nx' := fun r hr => by subst hr; exact hQ0
  clear hQ0
  have hXX : zX hi hi := zX.rf
  have hFr : lFr X hm hm := lFr.rf
  refine zM_of (by decide +kernel) (Nat.le_of_ble_eq_true rfl) ?_
  unfold w_fillHeads at h
  refine zV_eq (lo2 := [(0, .ref al), (1, .ref a1), (2, .int x2)]) rfl rfl rfl rfl ?_
  refine zV_blk (pc' := 1) (lo' := [(0, .ref al), (1, .ref a1), (2, .int x2)]) (st' := [.ref al]) [.aload_n 0] (by decide +kernel) rfl ?_
  refine l_getH (idx := 56) hW (zT_mem 168 (by decide +kernel) rfl) (by decide +kernel) (fun hx => ?_) (fun b1 z2 hx ho3 => ?_)
  · exact absurd hx hb_hg
  · replace h := zOm_s hx h
    refine zV_ifnull (r := some b1) (tgt := 14) (off := 10) (by decide +kernel) (by decide) (fun q => by cases q) (fun _ _ => ?_)
    refine zV_blk (pc' := 8) (lo' := [(0, .ref al), (1, .ref a1), (2, .int x2)]) (st' := [.ref al]) [.aload_n 0] (by decide +kernel) rfl ?_
    refine l_getL (idx := 60) hW (zT_mem 169 (by decide +kernel) rfl) (by decide +kernel) (fun hx => ?_) (fun b4 z5 hx ho6 => ?_)
    · exact absurd hx hb_lw
    · replace h := zOm_s hx h
      refine zV_ifnonnull (r := some b4) (tgt := 32) (off := 21) (by decide +kernel) (by decide) (fun _ _ => ?_) (fun q => by cases q)
      refine zV_pick (lo2 := [(0, .ref al), (1, .ref a1), (2, .int x2)]) [0, 1, 2] rfl ?_
      exact cw_fillHeads_32 s0 D X cB cI cJ cD al l1 l2 l3 l4 l5 A tp dv cs cv jv bo hg lw sb n x1 x2  a1 hW ho1 hXX hFr h hQ

def w_keepingShift_194 (n : Nat) (hg : Option (Nat → Int64)) (lw : Option (Nat → Int64)) (x1 : vDes) (x2 : Int32) (x3 : Int32) (x4 : Int32) (x5 : Int64) (x7 : Int64) (x9 : Int64) (x11 : Int64) (x13 : Int32) (x14 : Int32) : Option ((Int64 × Int64 × Int64 × Int32 × Int32) ⊕ (Int32 × (Option (Nat → Int64)) × (Option (Nat → Int64)))) := some (.inl (x7, x9, x11, x13, (x14 + (-1))))
set_option maxHeartbeats 4000000 in
set_option maxRecDepth 100000 in
theorem cw_keepingShift_194 (s0 : State) (D : va_G) (X : Nat → Prop) (cB cI cJ cD : ClassId) (al l1 l2 l3 l4 l5 : Nat) (A : Nat → Int32) (tp : Nat → Int32) (dv : Nat → Option vDes) (cs : Nat → Int32) (cv : Nat → Option vDes) (jv : Option vJoint) (bo : Option (Nat → Int32)) (hg : Option (Nat → Int64)) (lw : Option (Nat → Int64)) (sb : vSB) (n : Nat) (x1 : vDes) (x2 : Int32) (x3 : Int32) (x4 : Int32) (x5 : Int64) (x7 : Int64) (x9 : Int64) (x11 : Int64) (x13 : Int32) (x14 : Int32) (a1 : Nat) {x : (Int64 × Int64 × Int64 × Int32 × Int32) ⊕ (Int32 × (Option (Nat → Int64)) × (Option (Nat → Int64)))} {hi0 hi hm0 hm : zHp} {nx : Nat} {Q : Option Value → zHp → zHp → Nat → Prop} (hW : lW X cB cI cJ cD al l1 l2 l3 l4 l5 A tp dv cs cv jv bo hg lw sb hi hm) (ho1 : iDes cI hi a1 x1) (hXX : zX hi0 hi) (hFr : lFr X hm0 hm) (h : w_keepingShift_194 n hg lw x1 x2 x3 x4 x5 x7 x9 x11 x13 x14 = some x) (hL62 : ∀ s : Int64 × Int64 × Int64 × Int32 × Int32, x = (.inl s) → ∀ (hi' hm' : zHp) (nx' : Nat), zX hi0 hi' → lW X cB cI cJ cD al l1 l2 l3 l4 l5 A tp dv cs cv jv bo hg lw sb hi' hm' → lFr X hm0 hm' → zV s0 D (zty cB cI cJ cD) yX11_keepingShift cX11_keepingShift 24 (some .int) 5 117 0 0 62 [(0, .ref al), (1, .ref a1), (2, .int x2), (3, .int x3), (4, .int x4), (5, .long x5), (7, .long s.1), (9, .long s.2.1), (11, .long s.2.2.1), (13, .int s.2.2.2.1), (14, .int s.2.2.2.2)] [] hi' hm' nx' Q) (hQ : ∀ r : Int32 × (Option (Nat → Int64)) × (Option (Nat → Int64)), x = (.inr r) → ∀ (hi' hm' : zHp) (nx' : Nat), zX hi0 hi' → lW X cB cI cJ cD al l1 l2 l3 l4 l5 A tp dv cs cv jv bo r.2.1 r.2.2 sb hi' hm' → lFr X hm0 hm' → Q (some (.int r.1)) hi' hm' nx') : zV s0 D (zty cB cI cJ cD) yX11_keepingShift cX11_keepingShift 24 (some .int) 5 117 0 0 194 [(0, .ref al), (1, .ref a1), (2, .int x2), (3, .int x3), (4, .int x4), (5, .long x5), (7, .long x7), (9, .long x9), (11, .long x11), (13, .int x13), (14, .int x14)] [] hi hm nx Q := by
  unfold w_keepingShift_194 at h
  refine zV_blk (pc' := 197) (lo' := [(14, .int (x14 + (-1))), (0, .ref al), (1, .ref a1), (2, .int x2), (3, .int x3), (4, .int x4), (5, .long x5), (7, .long x7), (9, .long x9), (11, .long x11), (13, .int x13)]) (st' := []) [.iinc 14 (-1)] (by decide +kernel) rfl ?_
  refine zV_goto (tgt := 62) (off := -135) (by decide +kernel) (by decide) ?_
  obtain rfl := Option.some.inj h
  refine zV_pick (lo2 := [(0, .ref al), (1, .ref a1), (2, .int x2), (3, .int x3), (4, .int x4), (5, .long x5), (7, .long x7), (9, .long x9), (11, .long x11), (13, .int x13), (14, .int (x14 + (-1)))]) [1, 2, 3, 4, 5, 6, 7, 8, 9, 10, 0] rfl ?_
  exact hL62 _ rfl _ _ _ hXX hW hFr
def w_keepingShift_186 (n : Nat) (hg : Option (Nat → Int64)) (lw : Option (Nat → Int64)) (x1 : vDes) (x2 : Int32) (x3 : Int32) (x4 : Int32) (x5 : Int64) (x7 : Int64) (x9 : Int64) (x14 : Int32) (x21 : Int64) (x23 : Int32) : Option ((Int64 × Int64 × Int64 × Int32 × Int32) ⊕ (Int32 × (Option (Nat → Int64)) × (Option (Nat → Int64)))) := (w_keepingShift_194 n hg lw x1 x2 x3 x4 x5 x7 x9 x21 x23 x14 )
set_option maxHeartbeats 4000000 in
set_option maxRecDepth 100000 in
theorem cw_keepingShift_186 (s0 : State) (D : va_G) (X : Nat → Prop) (cB cI cJ cD : ClassId) (al l1 l2 l3 l4 l5 : Nat) (A : Nat → Int32) (tp : Nat → Int32) (dv : Nat → Option vDes) (cs : Nat → Int32) (cv : Nat → Option vDes) (jv : Option vJoint) (bo : Option (Nat → Int32)) (hg : Option (Nat → Int64)) (lw : Option (Nat → Int64)) (sb : vSB) (n : Nat) (x1 : vDes) (x2 : Int32) (x3 : Int32) (x4 : Int32) (x5 : Int64) (x7 : Int64) (x9 : Int64) (x14 : Int32) (x21 : Int64) (x23 : Int32) (a1 : Nat) {x : (Int64 × Int64 × Int64 × Int32 × Int32) ⊕ (Int32 × (Option (Nat → Int64)) × (Option (Nat → Int64)))} {hi0 hi hm0 hm : zHp} {nx : Nat} {Q : Option Value → zHp → zHp → Nat → Prop} (hW : lW X cB cI cJ cD al l1 l2 l3 l4 l5 A tp dv cs cv jv bo hg lw sb hi hm) (ho1 : iDes cI hi a1 x1) (hXX : zX hi0 hi) (hFr : lFr X hm0 hm) (h : w_keepingShift_186 n hg lw x1 x2 x3 x4 x5 x7 x9 x14 x21 x23 = some x) (hL62 : ∀ s : Int64 × Int64 × Int64 × Int32 × Int32, x = (.inl s) → ∀ (hi' hm' : zHp) (nx' : Nat), zX hi0 hi' → lW X cB cI cJ cD al l1 l2 l3 l4 l5 A tp dv cs cv jv bo hg lw sb hi' hm' → lFr X hm0 hm' → zV s0 D (zty cB cI cJ cD) yX11_keepingShift cX11_keepingShift 24 (some .int) 5 117 0 0 62 [(0, .ref al), (1, .ref a1), (2, .int x2), (3, .int x3), (4, .int x4), (5, .long x5), (7, .long s.1), (9, .long s.2.1), (11, .long s.2.2.1), (13, .int s.2.2.2.1), (14, .int s.2.2.2.2)] [] hi' hm' nx' Q) (hQ : ∀ r : Int32 × (Option (Nat → Int64)) × (Option (Nat → Int64)), x = (.inr r) → ∀ (hi' hm' : zHp) (nx' : Nat), zX hi0 hi' → lW X cB cI cJ cD al l1 l2 l3 l4 l5 A tp dv cs cv jv bo r.2.1 r.2.2 sb hi' hm' → lFr X hm0 hm' → Q (some (.int r.1)) hi' hm' nx') : zV s0 D (zty cB cI cJ cD) yX11_keepingShift cX11_keepingShift 24 (some .int) 5 117 0 0 186 [(0, .ref al), (1, .ref a1), (2, .int x2), (3, .int x3), (4, .int x4), (5, .long x5), (7, .long x7), (9, .long x9), (14, .int x14), (21, .long x21), (23, .int x23)] [] hi hm nx Q := by
  unfold w_keepingShift_186 at h
  refine zV_blk (pc' := 194) (lo' := [(13, .int x23), (11, .long x21), (0, .ref al), (1, .ref a1), (2, .int x2), (3, .int x3), (4, .int x4), (5, .long x5), (7, .long x7), (9, .long x9), (14, .int x14), (21, .long x21), (23, .int x23)]) (st' := []) [.lload 21, .lstore 11, .iload 23, .istore 13] (by decide +kernel) rfl ?_
  refine zV_pick (lo2 := [(0, .ref al), (1, .ref a1), (2, .int x2), (3, .int x3), (4, .int x4), (5, .long x5), (7, .long x7), (9, .long x9), (11, .long x21), (13, .int x23), (14, .int x14)]) [2, 3, 4, 5, 6, 7, 8, 9, 1, 0, 10] rfl ?_
  exact cw_keepingShift_194 s0 D X cB cI cJ cD al l1 l2 l3 l4 l5 A tp dv cs cv jv bo hg lw sb n x1 x2 x3 x4 x5 x7 x9 x21 x23 x14  a1 hW ho1 hXX hFr h hL62 hQ
def w_keepingShift_62 (n : Nat) (hg : Option (Nat → Int64)) (lw : Option (Nat → Int64)) (x1 : vDes) (x2 : Int32) (x3 : Int32) (x4 : Int32) (x5 : Int64) (s : Int64 × Int64 × Int64 × Int32 × Int32) : Option ((Int64 × Int64 × Int64 × Int32 × Int32) ⊕ (Int32 × (Option (Nat → Int64)) × (Option (Nat → Int64)))) := (if (s.2.2.2.2 : Int32) < (0 : Int32) then some (.inr (s.2.2.2.1, hg, lw)) else (k_slipUnits n x1 s.2.2.2.2).bind (fun v1 => (j_maxL s.1 v1).bind (fun v9 => (j_minL s.2.1 v1).bind (fun v10 => (if (x4 : Int32) ≤ (s.2.2.2.2 : Int32) then (w_keepingShift_194 n hg lw x1 x2 x3 x4 x5 v9 v10 s.2.2.1 s.2.2.2.1 s.2.2.2.2 ) else zOm (hg) (none) (fun z12 => zck (zin (s.2.2.2.2) 1000) ((j_maxL v9 (z12 (s.2.2.2.2 : Int32).toNatClampNeg)).bind (fun v14 => zOm (lw) (none) (fun z16 => zck (zin (s.2.2.2.2) 1000) ((j_minL v10 (z16 (s.2.2.2.2 : Int32).toNatClampNeg)).bind (fun v18 => (j_abs ((v14 - v1) - x5)).bind (fun v19 => (j_abs ((v18 - v1) - x5)).bind (fun v20 => (j_maxL v19 v20).bind (fun v21 => zck (decide (¬ (x3 : Int32) = 0)) ((if (v21 : Int64) < (s.2.2.1 : Int64) then (w_keepingShift_186 n hg lw x1 x2 x3 x4 x5 v9 v10 s.2.2.2.2 v21 ((x2 * s.2.2.2.2) - (x2 * s.2.2.2.2) / x3 * x3) ) else (if (v21 : Int64) = (s.2.2.1 : Int64) then (if (s.2.2.2.1 : Int32) ≤ (((x2 * s.2.2.2.2) - (x2 * s.2.2.2.2) / x3 * x3) : Int32) then (w_keepingShift_194 n hg lw x1 x2 x3 x4 x5 v9 v10 s.2.2.1 s.2.2.2.1 s.2.2.2.2 ) else (w_keepingShift_186 n hg lw x1 x2 x3 x4 x5 v9 v10 s.2.2.2.2 v21 ((x2 * s.2.2.2.2) - (x2 * s.2.2.2.2) / x3 * x3) )) else (w_keepingShift_194 n hg lw x1 x2 x3 x4 x5 v9 v10 s.2.2.1 s.2.2.2.1 s.2.2.2.2 ))))))))))))))))))
set_option maxHeartbeats 4000000 in
set_option maxRecDepth 100000 in
theorem cw_keepingShift_62 (s0 : State) (D : va_G) (X : Nat → Prop) (cB cI cJ cD : ClassId) (al l1 l2 l3 l4 l5 : Nat) (A : Nat → Int32) (tp : Nat → Int32) (dv : Nat → Option vDes) (cs : Nat → Int32) (cv : Nat → Option vDes) (jv : Option vJoint) (bo : Option (Nat → Int32)) (hg : Option (Nat → Int64)) (lw : Option (Nat → Int64)) (sb : vSB) (n : Nat) (x1 : vDes) (x2 : Int32) (x3 : Int32) (x4 : Int32) (x5 : Int64) (a1 : Nat) (s : Int64 × Int64 × Int64 × Int32 × Int32) {x : (Int64 × Int64 × Int64 × Int32 × Int32) ⊕ (Int32 × (Option (Nat → Int64)) × (Option (Nat → Int64)))} {hi0 hi hm0 hm : zHp} {nx : Nat} {Q : Option Value → zHp → zHp → Nat → Prop} (hW : lW X cB cI cJ cD al l1 l2 l3 l4 l5 A tp dv cs cv jv bo hg lw sb hi hm) (ho1 : iDes cI hi a1 x1) (hXX : zX hi0 hi) (hFr : lFr X hm0 hm) (h : w_keepingShift_62 n hg lw x1 x2 x3 x4 x5 s = some x) (hL62 : ∀ s : Int64 × Int64 × Int64 × Int32 × Int32, x = (.inl s) → ∀ (hi' hm' : zHp) (nx' : Nat), zX hi0 hi' → lW X cB cI cJ cD al l1 l2 l3 l4 l5 A tp dv cs cv jv bo hg lw sb hi' hm' → lFr X hm0 hm' → zV s0 D (zty cB cI cJ cD) yX11_keepingShift cX11_keepingShift 24 (some .int) 5 117 0 0 62 [(0, .ref al), (1, .ref a1), (2, .int x2), (3, .int x3), (4, .int x4), (5, .long x5), (7, .long s.1), (9, .long s.2.1), (11, .long s.2.2.1), (13, .int s.2.2.2.1), (14, .int s.2.2.2.2)] [] hi' hm' nx' Q) (hQ : ∀ r : Int32 × (Option (Nat → Int64)) × (Option (Nat → Int64)), x = (.inr r) → ∀ (hi' hm' : zHp) (nx' : Nat), zX hi0 hi' → lW X cB cI cJ cD al l1 l2 l3 l4 l5 A tp dv cs cv jv bo r.2.1 r.2.2 sb hi' hm' → lFr X hm0 hm' → Q (some (.int r.1)) hi' hm' nx') : zV s0 D (zty cB cI cJ cD) yX11_keepingShift cX11_keepingShift 24 (some .int) 5 117 0 0 62 [(0, .ref al), (1, .ref a1), (2, .int x2), (3, .int x3), (4, .int x4), (5, .long x5), (7, .long s.1), (9, .long s.2.1), (11, .long s.2.2.1), (13, .int s.2.2.2.1), (14, .int s.2.2.2.2)] [] hi hm nx Q := by
  unfold w_keepingShift_62 at h
  refine zV_blk (pc' := 64) (lo' := [(0, .ref al), (1, .ref a1), (2, .int x2), (3, .int x3), (4, .int x4), (5, .long x5), (7, .long s.1), (9, .long s.2.1), (11, .long s.2.2.1), (13, .int s.2.2.2.1), (14, .int s.2.2.2.2)]) (st' := [.int s.2.2.2.2]) [.iload 14] (by decide +kernel) rfl ?_
  refine zV_if_lt (tgt := 200) (off := 136) (by decide +kernel) (by decide) (fun q => ?_) (fun q => ?_)
  · replace h := zif_pos q h
    clear q
    refine zV_blk (pc' := 202) (lo' := [(0, .ref al), (1, .ref a1), (2, .int x2), (3, .int x3), (4, .int x4), (5, .long x5), (7, .long s.1), (9, .long s.2.1), (11, .long s.2.2.1), (13, .int s.2.2.2.1), (14, .int s.2.2.2.2)]) (st' := [.int s.2.2.2.1]) [.iload 13] (by decide +kernel) rfl ?_
    obtain rfl := Option.some.inj h
    exact zV_iret rfl (by decide +kernel) (hQ _ rfl _ _ _ hXX hW hFr)
  · replace h := zif_neg q h
    clear q
    refine zV_blk (pc' := 70) (lo' := [(0, .ref al), (1, .ref a1), (2, .int x2), (3, .int x3), (4, .int x4), (5, .long x5), (7, .long s.1), (9, .long s.2.1), (11, .long s.2.2.1), (13, .int s.2.2.2.1), (14, .int s.2.2.2.2)]) (st' := [.int s.2.2.2.2, .ref a1]) [.aload_n 1, .iload 14] (by decide +kernel) rfl ?_
    obtain ⟨v1, hv1, h⟩ := zbind h
    obtain ⟨b2, b3, b4, hc5, hc6, hc7, hc8⟩ := ho1
    refine zV_roV (idx := 284) (rest := []) (fs := [.ref b2, .ref b3, .ref b4]) (ci := 0) (fun Q2 hQ2 => ck_slipUnits s0 D cB cI cJ cD n x1 s.2.2.2.2 a1 v1 hv1 ⟨b2, b3, b4, hc5, hc6, hc7, hc8⟩ hQ2) oX0_slipUnits (Or.inl hc5) rfl (zT_mem 1176 (by decide +kernel) rfl) (zT_mem 1123 (by decide +kernel) rfl) (zT_mem 1124 (by decide +kernel) rfl) rfl rfl (Nat.le_of_ble_eq_true rfl) ⟨by decide, by decide⟩ (by decide +kernel) ?_
    refine zV_eq (st2 := [.long v1]) rfl rfl rfl rfl ?_
    refine zV_blk (pc' := 79) (lo' := [(15, .long v1), (0, .ref al), (1, .ref a1), (2, .int x2), (3, .int x3), (4, .int x4), (5, .long x5), (7, .long s.1), (9, .long s.2.1), (11, .long s.2.2.1), (13, .int s.2.2.2.1), (14, .int s.2.2.2.2)]) (st' := [.long v1, .long s.1]) [.lstore 15, .lload 7, .lload 15] (by decide +kernel) rfl ?_
    obtain ⟨v9, hv9, h⟩ := zbind h
    refine zV_roS (idx := 289) (rest := []) (fun Q2 hQ2 => cj_maxL s0 D cB cI cJ cD s.1 v1  v9 hv9  hQ2) oJ9_max_f86c9 (zT_mem 1177 (by decide +kernel) rfl) (zT_mem 696 (by decide +kernel) rfl) rfl rfl (Nat.le_of_ble_eq_true rfl) ⟨by decide, by decide⟩ (by decide +kernel) ?_
    refine zV_eq (st2 := [.long v9]) rfl rfl rfl rfl ?_
    refine zV_blk (pc' := 88) (lo' := [(7, .long v9), (15, .long v1), (0, .ref al), (1, .ref a1), (2, .int x2), (3, .int x3), (4, .int x4), (5, .long x5), (9, .long s.2.1), (11, .long s.2.2.1), (13, .int s.2.2.2.1), (14, .int s.2.2.2.2)]) (st' := [.long v1, .long s.2.1]) [.lstore 7, .lload 9, .lload 15] (by decide +kernel) rfl ?_
    obtain ⟨v10, hv10, h⟩ := zbind h
    refine zV_roS (idx := 292) (rest := []) (fun Q2 hQ2 => cj_minL s0 D cB cI cJ cD s.2.1 v1  v10 hv10  hQ2) oJ9_min_f86c9 (zT_mem 1178 (by decide +kernel) rfl) (zT_mem 1179 (by decide +kernel) rfl) rfl rfl (Nat.le_of_ble_eq_true rfl) ⟨by decide, by decide⟩ (by decide +kernel) ?_
    refine zV_eq (st2 := [.long v10]) rfl rfl rfl rfl ?_
    refine zV_blk (pc' := 97) (lo' := [(9, .long v10), (7, .long v9), (15, .long v1), (0, .ref al), (1, .ref a1), (2, .int x2), (3, .int x3), (4, .int x4), (5, .long x5), (11, .long s.2.2.1), (13, .int s.2.2.2.1), (14, .int s.2.2.2.2)]) (st' := [.int x4, .int s.2.2.2.2]) [.lstore 9, .iload 14, .iload 4] (by decide +kernel) rfl ?_
    refine zV_icmp_ge (tgt := 194) (off := 97) (by decide +kernel) (by decide) (fun q => ?_) (fun q => ?_)
    · replace h := zif_pos q h
      clear q
      refine zV_pick (lo2 := [(0, .ref al), (1, .ref a1), (2, .int x2), (3, .int x3), (4, .int x4), (5, .long x5), (7, .long v9), (9, .long v10), (11, .long s.2.2.1), (13, .int s.2.2.2.1), (14, .int s.2.2.2.2)]) [3, 4, 5, 6, 7, 8, 1, 0, 9, 10, 11] rfl ?_
      exact cw_keepingShift_194 s0 D X cB cI cJ cD al l1 l2 l3 l4 l5 A tp dv cs cv jv bo hg lw sb n x1 x2 x3 x4 x5 v9 v10 s.2.2.1 s.2.2.2.1 s.2.2.2.2  a1 hW ⟨b2, b3, b4, hc5, hc6, hc7, hc8⟩ hXX hFr h hL62 hQ
    · replace h := zif_neg q h
      clear q
      refine zV_blk (pc' := 103) (lo' := [(9, .long v10), (7, .long v9), (15, .long v1), (0, .ref al), (1, .ref a1), (2, .int x2), (3, .int x3), (4, .int x4), (5, .long x5), (11, .long s.2.2.1), (13, .int s.2.2.2.1), (14, .int s.2.2.2.2)]) (st' := [.ref al, .long v9]) [.lload 7, .aload_n 0] (by decide +kernel) rfl ?_
      refine l_getH (idx := 56) hW (zT_mem 168 (by decide +kernel) rfl) (by decide +kernel) (fun hx => ?_) (fun b11 z12 hx ho13 => ?_)
      · replace h := zOm_n hx h
        refine zV_blk (pc' := 108) (lo' := [(9, .long v10), (7, .long v9), (15, .long v1), (0, .ref al), (1, .ref a1), (2, .int x2), (3, .int x3), (4, .int x4), (5, .long x5), (11, .long s.2.2.1), (13, .int s.2.2.2.1), (14, .int s.2.2.2.2)]) (st' := [.int s.2.2.2.2, .null, .long v9]) [.iload 14] (by decide +kernel) rfl ?_
        cases h
      · replace h := zOm_s hx h
        refine zV_blk (pc' := 108) (lo' := [(9, .long v10), (7, .long v9), (15, .long v1), (0, .ref al), (1, .ref a1), (2, .int x2), (3, .int x3), (4, .int x4), (5, .long x5), (11, .long s.2.2.1), (13, .int s.2.2.2.1), (14, .int s.2.2.2.2)]) (st' := [.int s.2.2.2.2, .ref b11, .long v9]) [.iload 14] (by decide +kernel) rfl ?_
        obtain ⟨hz, h⟩ := zck_some h
        refine l_ldH ho13 hz (by decide +kernel) ?_
        obtain ⟨v14, hv14, h⟩ := zbind h
        refine zV_roS (idx := 289) (rest := []) (fun Q2 hQ2 => cj_maxL s0 D cB cI cJ cD v9 (z12 (s.2.2.2.2 : Int32).toNatClampNeg)  v14 hv14  hQ2) oJ9_max_f86c9 (zT_mem 1177 (by decide +kernel) rfl) (zT_mem 696 (by decide +kernel) rfl) rfl rfl (Nat.le_of_ble_eq_true rfl) ⟨by decide, by decide⟩ (by decide +kernel) ?_
        refine zV_eq (st2 := [.long v14]) rfl rfl rfl rfl ?_
        refine zV_blk (pc' := 123) (lo' := [(17, .long ((v14 - v1) - x5)), (9, .long v10), (7, .long v9), (15, .long v1), (0, .ref al), (1, .ref a1), (2, .int x2), (3, .int x3), (4, .int x4), (5, .long x5), (11, .long s.2.2.1), (13, .int s.2.2.2.1), (14, .int s.2.2.2.2)]) (st' := [.ref al, .long v10]) [.lload 15, .lsub, .lload 5, .lsub, .lstore 17, .lload 9, .aload_n 0] (by decide +kernel) rfl ?_
        refine l_getL (idx := 60) hW (zT_mem 169 (by decide +kernel) rfl) (by decide +kernel) (fun hx => ?_) (fun b15 z16 hx ho17 => ?_)
        · replace h := zOm_n hx h
          refine zV_blk (pc' := 128) (lo' := [(17, .long ((v14 - v1) - x5)), (9, .long v10), (7, .long v9), (15, .long v1), (0, .ref al), (1, .ref a1), (2, .int x2), (3, .int x3), (4, .int x4), (5, .long x5), (11, .long s.2.2.1), (13, .int s.2.2.2.1), (14, .int s.2.2.2.2)]) (st' := [.int s.2.2.2.2, .null, .long v10]) [.iload 14] (by decide +kernel) rfl ?_
          cases h
        · replace h := zOm_s hx h
          refine zV_blk (pc' := 128) (lo' := [(17, .long ((v14 - v1) - x5)), (9, .long v10), (7, .long v9), (15, .long v1), (0, .ref al), (1, .ref a1), (2, .int x2), (3, .int x3), (4, .int x4), (5, .long x5), (11, .long s.2.2.1), (13, .int s.2.2.2.1), (14, .int s.2.2.2.2)]) (st' := [.int s.2.2.2.2, .ref b15, .long v10]) [.iload 14] (by decide +kernel) rfl ?_
          obtain ⟨hz, h⟩ := zck_some h
          refine l_ldL ho17 hz (by decide +kernel) ?_
          obtain ⟨v18, hv18, h⟩ := zbind h
          refine zV_roS (idx := 292) (rest := []) (fun Q2 hQ2 => cj_minL s0 D cB cI cJ cD v10 (z16 (s.2.2.2.2 : Int32).toNatClampNeg)  v18 hv18  hQ2) oJ9_min_f86c9 (zT_mem 1178 (by decide +kernel) rfl) (zT_mem 1179 (by decide +kernel) rfl) rfl rfl (Nat.le_of_ble_eq_true rfl) ⟨by decide, by decide⟩ (by decide +kernel) ?_
          refine zV_eq (st2 := [.long v18]) rfl rfl rfl rfl ?_
          refine zV_blk (pc' := 142) (lo' := [(19, .long ((v18 - v1) - x5)), (17, .long ((v14 - v1) - x5)), (9, .long v10), (7, .long v9), (15, .long v1), (0, .ref al), (1, .ref a1), (2, .int x2), (3, .int x3), (4, .int x4), (5, .long x5), (11, .long s.2.2.1), (13, .int s.2.2.2.1), (14, .int s.2.2.2.2)]) (st' := [.long ((v14 - v1) - x5)]) [.lload 15, .lsub, .lload 5, .lsub, .lstore 19, .lload 17] (by decide +kernel) rfl ?_
          obtain ⟨v19, hv19, h⟩ := zbind h
          refine zV_roS (idx := 294) (rest := []) (fun Q2 hQ2 => cj_abs s0 D cB cI cJ cD ((v14 - v1) - x5)  v19 hv19  hQ2) oJ9_abs_067f4 (zT_mem 1183 (by decide +kernel) rfl) (zT_mem 693 (by decide +kernel) rfl) rfl rfl (Nat.le_of_ble_eq_true rfl) ⟨by decide, by decide⟩ (by decide +kernel) ?_
          refine zV_eq (st2 := [.long v19]) rfl rfl rfl rfl ?_
          refine zV_blk (pc' := 147) (lo' := [(19, .long ((v18 - v1) - x5)), (17, .long ((v14 - v1) - x5)), (9, .long v10), (7, .long v9), (15, .long v1), (0, .ref al), (1, .ref a1), (2, .int x2), (3, .int x3), (4, .int x4), (5, .long x5), (11, .long s.2.2.1), (13, .int s.2.2.2.1), (14, .int s.2.2.2.2)]) (st' := [.long ((v18 - v1) - x5), .long v19]) [.lload 19] (by decide +kernel) rfl ?_
          obtain ⟨v20, hv20, h⟩ := zbind h
          refine zV_roS (idx := 294) (rest := [.long v19]) (fun Q2 hQ2 => cj_abs s0 D cB cI cJ cD ((v18 - v1) - x5)  v20 hv20  hQ2) oJ9_abs_067f4 (zT_mem 1183 (by decide +kernel) rfl) (zT_mem 693 (by decide +kernel) rfl) rfl rfl (Nat.le_of_ble_eq_true rfl) ⟨by decide, by decide⟩ (by decide +kernel) ?_
          refine zV_eq (st2 := [.long v20, .long v19]) rfl rfl rfl rfl ?_
          obtain ⟨v21, hv21, h⟩ := zbind h
          refine zV_roS (idx := 289) (rest := []) (fun Q2 hQ2 => cj_maxL s0 D cB cI cJ cD v19 v20  v21 hv21  hQ2) oJ9_max_f86c9 (zT_mem 1177 (by decide +kernel) rfl) (zT_mem 696 (by decide +kernel) rfl) rfl rfl (Nat.le_of_ble_eq_true rfl) ⟨by decide, by decide⟩ (by decide +kernel) ?_
          refine zV_eq (st2 := [.long v21]) rfl rfl rfl rfl ?_
          refine zV_blk (pc' := 160) (lo' := [(21, .long v21), (19, .long ((v18 - v1) - x5)), (17, .long ((v14 - v1) - x5)), (9, .long v10), (7, .long v9), (15, .long v1), (0, .ref al), (1, .ref a1), (2, .int x2), (3, .int x3), (4, .int x4), (5, .long x5), (11, .long s.2.2.1), (13, .int s.2.2.2.1), (14, .int s.2.2.2.2)]) (st' := [.int x3, .int (x2 * s.2.2.2.2)]) [.lstore 21, .iload_n 2, .iload 14, .imul, .iload_n 3] (by decide +kernel) rfl ?_
          obtain ⟨hz, h⟩ := zck_some h
          refine zV_irem (by decide +kernel) (of_decide_eq_true hz) ?_
          refine zV_blk (pc' := 168) (lo' := [(23, .int ((x2 * s.2.2.2.2) - (x2 * s.2.2.2.2) / x3 * x3)), (21, .long v21), (19, .long ((v18 - v1) - x5)), (17, .long ((v14 - v1) - x5)), (9, .long v10), (7, .long v9), (15, .long v1), (0, .ref al), (1, .ref a1), (2, .int x2), (3, .int x3), (4, .int x4), (5, .long x5), (11, .long s.2.2.1), (13, .int s.2.2.2.1), (14, .int s.2.2.2.2)]) (st' := [.int (lg_cmp v21 s.2.2.1)]) [.istore 23, .lload 21, .lload 11, .lcmp] (by decide +kernel) rfl ?_
          refine zV_lcmp_lt (tgt := 186) (off := 18) (by decide +kernel) (by decide) (fun q => ?_) (fun q => ?_)
          · replace h := zif_pos q h
            clear q
            refine zV_pick (lo2 := [(0, .ref al), (1, .ref a1), (2, .int x2), (3, .int x3), (4, .int x4), (5, .long x5), (7, .long v9), (9, .long v10), (14, .int s.2.2.2.2), (21, .long v21), (23, .int ((x2 * s.2.2.2.2) - (x2 * s.2.2.2.2) / x3 * x3))]) [7, 8, 9, 10, 11, 12, 5, 4, 15, 1, 0] rfl ?_
            exact cw_keepingShift_186 s0 D X cB cI cJ cD al l1 l2 l3 l4 l5 A tp dv cs cv jv bo hg lw sb n x1 x2 x3 x4 x5 v9 v10 s.2.2.2.2 v21 ((x2 * s.2.2.2.2) - (x2 * s.2.2.2.2) / x3 * x3)  a1 hW ⟨b2, b3, b4, hc5, hc6, hc7, hc8⟩ hXX hFr h hL62 hQ
          · replace h := zif_neg q h
            clear q
            refine zV_blk (pc' := 176) (lo' := [(23, .int ((x2 * s.2.2.2.2) - (x2 * s.2.2.2.2) / x3 * x3)), (21, .long v21), (19, .long ((v18 - v1) - x5)), (17, .long ((v14 - v1) - x5)), (9, .long v10), (7, .long v9), (15, .long v1), (0, .ref al), (1, .ref a1), (2, .int x2), (3, .int x3), (4, .int x4), (5, .long x5), (11, .long s.2.2.1), (13, .int s.2.2.2.1), (14, .int s.2.2.2.2)]) (st' := [.int (lg_cmp v21 s.2.2.1)]) [.lload 21, .lload 11, .lcmp] (by decide +kernel) rfl ?_
            refine zV_lcmp_ne (tgt := 194) (off := 18) (by decide +kernel) (by decide) (fun q => ?_) (fun q => ?_)
            · replace h := zif_neg q h
              clear q
              refine zV_pick (lo2 := [(0, .ref al), (1, .ref a1), (2, .int x2), (3, .int x3), (4, .int x4), (5, .long x5), (7, .long v9), (9, .long v10), (11, .long s.2.2.1), (13, .int s.2.2.2.1), (14, .int s.2.2.2.2)]) [7, 8, 9, 10, 11, 12, 5, 4, 13, 14, 15] rfl ?_
              exact cw_keepingShift_194 s0 D X cB cI cJ cD al l1 l2 l3 l4 l5 A tp dv cs cv jv bo hg lw sb n x1 x2 x3 x4 x5 v9 v10 s.2.2.1 s.2.2.2.1 s.2.2.2.2  a1 hW ⟨b2, b3, b4, hc5, hc6, hc7, hc8⟩ hXX hFr h hL62 hQ
            · replace h := zif_pos q h
              clear q
              refine zV_blk (pc' := 183) (lo' := [(23, .int ((x2 * s.2.2.2.2) - (x2 * s.2.2.2.2) / x3 * x3)), (21, .long v21), (19, .long ((v18 - v1) - x5)), (17, .long ((v14 - v1) - x5)), (9, .long v10), (7, .long v9), (15, .long v1), (0, .ref al), (1, .ref a1), (2, .int x2), (3, .int x3), (4, .int x4), (5, .long x5), (11, .long s.2.2.1), (13, .int s.2.2.2.1), (14, .int s.2.2.2.2)]) (st' := [.int s.2.2.2.1, .int ((x2 * s.2.2.2.2) - (x2 * s.2.2.2.2) / x3 * x3)]) [.iload 23, .iload 13] (by decide +kernel) rfl ?_
              refine zV_icmp_ge (tgt := 194) (off := 11) (by decide +kernel) (by decide) (fun q => ?_) (fun q => ?_)
              · replace h := zif_pos q h
                clear q
                refine zV_pick (lo2 := [(0, .ref al), (1, .ref a1), (2, .int x2), (3, .int x3), (4, .int x4), (5, .long x5), (7, .long v9), (9, .long v10), (11, .long s.2.2.1), (13, .int s.2.2.2.1), (14, .int s.2.2.2.2)]) [7, 8, 9, 10, 11, 12, 5, 4, 13, 14, 15] rfl ?_
                exact cw_keepingShift_194 s0 D X cB cI cJ cD al l1 l2 l3 l4 l5 A tp dv cs cv jv bo hg lw sb n x1 x2 x3 x4 x5 v9 v10 s.2.2.1 s.2.2.2.1 s.2.2.2.2  a1 hW ⟨b2, b3, b4, hc5, hc6, hc7, hc8⟩ hXX hFr h hL62 hQ
              · replace h := zif_neg q h
                clear q
                refine zV_pick (lo2 := [(0, .ref al), (1, .ref a1), (2, .int x2), (3, .int x3), (4, .int x4), (5, .long x5), (7, .long v9), (9, .long v10), (14, .int s.2.2.2.2), (21, .long v21), (23, .int ((x2 * s.2.2.2.2) - (x2 * s.2.2.2.2) / x3 * x3))]) [7, 8, 9, 10, 11, 12, 5, 4, 15, 1, 0] rfl ?_
                exact cw_keepingShift_186 s0 D X cB cI cJ cD al l1 l2 l3 l4 l5 A tp dv cs cv jv bo hg lw sb n x1 x2 x3 x4 x5 v9 v10 s.2.2.2.2 v21 ((x2 * s.2.2.2.2) - (x2 * s.2.2.2.2) / x3 * x3)  a1 hW ⟨b2, b3, b4, hc5, hc6, hc7, hc8⟩ hXX hFr h hL62 hQ
theorem cw_keepingShift_62L (s0 : State) (D : va_G) (X : Nat → Prop) (cB cI cJ cD : ClassId) (al l1 l2 l3 l4 l5 : Nat) (A : Nat → Int32) (tp : Nat → Int32) (dv : Nat → Option vDes) (cs : Nat → Int32) (cv : Nat → Option vDes) (jv : Option vJoint) (bo : Option (Nat → Int32)) (hg : Option (Nat → Int64)) (lw : Option (Nat → Int64)) (sb : vSB) (n : Nat) (x1 : vDes) (x2 : Int32) (x3 : Int32) (x4 : Int32) (x5 : Int64) (a1 : Nat) : ∀ (k : Nat) (s : Int64 × Int64 × Int64 × Int32 × Int32) {hi0 hi hm0 hm : zHp} {nx : Nat} {Q : Option Value → zHp → zHp → Nat → Prop} (_ : lW X cB cI cJ cD al l1 l2 l3 l4 l5 A tp dv cs cv jv bo hg lw sb hi hm) (ho1 : iDes cI hi a1 x1) (_ : zX hi0 hi) (_ : lFr X hm0 hm) {x : Int32 × (Option (Nat → Int64)) × (Option (Nat → Int64))} (_ : zloop (w_keepingShift_62 n hg lw x1 x2 x3 x4 x5) k s = some x) (hQ : ∀ r : Int32 × (Option (Nat → Int64)) × (Option (Nat → Int64)), x = r → ∀ (hi' hm' : zHp) (nx' : Nat), zX hi0 hi' → lW X cB cI cJ cD al l1 l2 l3 l4 l5 A tp dv cs cv jv bo r.2.1 r.2.2 sb hi' hm' → lFr X hm0 hm' → Q (some (.int r.1)) hi' hm' nx'), zV s0 D (zty cB cI cJ cD) yX11_keepingShift cX11_keepingShift 24 (some .int) 5 117 0 0 62 [(0, .ref al), (1, .ref a1), (2, .int x2), (3, .int x3), (4, .int x4), (5, .long x5), (7, .long s.1), (9, .long s.2.1), (11, .long s.2.2.1), (13, .int s.2.2.2.1), (14, .int s.2.2.2.2)] [] hi hm nx Q
  | 0, s, _, _, _, _, _, _, _, _, _, _, _, h, _ => by cases h
  | k + 1, s, hi0, hi, hm0, hm, nx, Q, hW, ho1, hXX, hFr, x, h, hQ => by
    obtain ⟨z, hz, h1, h2⟩ := zloop_succ h
    exact cw_keepingShift_62 s0 D X cB cI cJ cD al l1 l2 l3 l4 l5 A tp dv cs cv jv bo hg lw sb n x1 x2 x3 x4 x5 a1 s hW ho1 zX.rf hFr hz (fun s' hs hi' hm' nx' hX hW' hFr' => cw_keepingShift_62L s0 D X cB cI cJ cD al l1 l2 l3 l4 l5 A tp dv cs cv jv bo hg lw sb n x1 x2 x3 x4 x5 a1 k s' hW' (ho1.mono hX) (hXX.tr hX) hFr' (h1 s' hs) hQ) (fun r hr hi' hm' nx' hX hW' hFr' => hQ r (h2 _ hr).symm hi' hm' nx' (hXX.tr hX) hW' hFr')
def w_keepingShift (n : Nat) (hg : Option (Nat → Int64)) (lw : Option (Nat → Int64)) (x1 : vDes) (x2 : Int32) (x3 : Int32) : Option (Int32 × (Option (Nat → Int64)) × (Option (Nat → Int64))) := (if (x3 : Int32) ≤ (1000 : Int32) then (w_fillHeads n hg lw x1 x3).bind (fun v1 => (k_gcd n (x2 : Int32).toInt64 (x3 : Int32).toInt64).bind (fun v3 => zck (decide (¬ ((v3 : Int64).toInt32 : Int32) = 0)) ((k_beginUnits x1.2.2).bind (fun v11 => (k_slipUnits n x1 (x3 - 1)).bind (fun v12 => (zloop (w_keepingShift_62 n v1.1 v1.2 x1 x2 x3 (x3 / (v3 : Int64).toInt32) v11) n (v12, v12, 4611686018427387904, 0, (x3 - 1)))))))) else some ((-1), hg, lw))
theorem oX11_keepingShift : zO yX11_keepingShift cX11_keepingShift 24 (some .int) 3 := ⟨zT_mem 1169 (by decide +kernel) rfl, zT_mem 89 (by decide +kernel) rfl, by decide +kernel, by decide +kernel, by decide +kernel⟩
set_option maxHeartbeats 4000000 in
set_option maxRecDepth 100000 in
theorem cw_keepingShift (s0 : State) (D : va_G) (X : Nat → Prop) (cB cI cJ cD : ClassId) (al l1 l2 l3 l4 l5 : Nat) (A : Nat → Int32) (tp : Nat → Int32) (dv : Nat → Option vDes) (cs : Nat → Int32) (cv : Nat → Option vDes) (jv : Option vJoint) (bo : Option (Nat → Int32)) (hg : Option (Nat → Int64)) (lw : Option (Nat → Int64)) (sb : vSB) (n : Nat) (x1 : vDes) (x2 : Int32) (x3 : Int32) (a1 : Nat) (x : Int32 × (Option (Nat → Int64)) × (Option (Nat → Int64))) (h : w_keepingShift n hg lw x1 x2 x3 = some x) {hi hm : zHp} {nx : Nat} {Q : Option Value → zHp → zHp → Nat → Prop} (hW : lW X cB cI cJ cD al l1 l2 l3 l4 l5 A tp dv cs cv jv bo hg lw sb hi hm) (ho1 : iDes cI hi a1 x1) (hQ0 : ∀ (hi' hm' : zHp) (nx' : Nat), zX hi hi' → lW X cB cI cJ cD al l1 l2 l3 l4 l5 A tp dv cs cv jv bo x.2.1 x.2.2 sb hi' hm' → lFr X hm hm' → Q (some (.int x.1)) hi' hm' nx') : zM s0 D (zty cB cI cJ cD) yX11_keepingShift cX11_keepingShift 24 (some .int) 5 117 2 2000 [.ref al, .ref a1, .int x2, .int x3] hi hm nx Q := by
  have hQ : ∀ r : Int32 × (Option (Nat → Int64)) × (Option (Nat → Int64)), x = r → ∀ (hi' hm' : zHp) (nx' : Nat), zX hi hi' → lW X cB cI cJ cD al l1 l2 l3 l4 l5 A tp dv cs cv jv bo r.2.1 r.2.2 sb hi' hm' → lFr X hm hm' → Q (some (.int r.1)) hi' hm' nx' := fun r hr => by subst hr; exact hQ0
  clear hQ0
  have hXX : zX hi hi := zX.rf
  have hFr : lFr X hm hm := lFr.rf
  refine zM_of (by decide +kernel) (Nat.le_of_ble_eq_true rfl) ?_
  unfold w_keepingShift at h
  refine zV_eq (lo2 := [(0, .ref al), (1, .ref a1), (2, .int x2), (3, .int x3)]) rfl rfl rfl rfl ?_
  refine zV_blk (pc' := 4) (lo' := [(0, .ref al), (1, .ref a1), (2, .int x2), (3, .int x3)]) (st' := [.int 1000, .int x3]) [.iload_n 3, .sipush 1000] (by decide +kernel) rfl ?_
  refine zV_icmp_le (tgt := 9) (off := 5) (by decide +kernel) (by decide) (fun q => ?_) (fun q => ?_)
  · replace h := zif_pos q h
    clear q
    refine zV_blk (pc' := 12) (lo' := [(0, .ref al), (1, .ref a1), (2, .int x2), (3, .int x3)]) (st' := [.int x3, .ref a1, .ref al]) [.aload_n 0, .aload_n 1, .iload_n 3] (by decide +kernel) rfl ?_
    obtain ⟨v1, hv1, h⟩ := zbind h
    refine l_call (mc := 0) (ms := 0) (idx := 272) (As := [.ref a1, .int x3]) (rest := []) hW (fun Q2 hQ2 => cw_fillHeads s0 D X cB cI cJ cD al l1 l2 l3 l4 l5 A tp dv cs cv jv bo hg lw sb n x1 x3 a1 v1 hv1 hW ho1  hQ2) oX11_fillHeads rfl (zT_mem 1170 (by decide +kernel) rfl) (zT_mem 1172 (by decide +kernel) rfl) (zT_mem 14 (by decide +kernel) rfl) rfl rfl (Nat.le_of_ble_eq_true rfl) ⟨by decide, by decide⟩ (by decide +kernel) ?_
    intro hi2 hm2 nx2 hX hW2 hFr2
    replace ho1 := ho1.mono hX
    clear hW; have hW := hW2; clear hW2
    replace hXX := hXX.tr hX; clear hX
    replace hFr := hFr.tr hFr2; clear hFr2
    refine zV_eq (st2 := []) rfl rfl rfl rfl ?_
    refine zV_blk (pc' := 20) (lo' := [(0, .ref al), (1, .ref a1), (2, .int x2), (3, .int x3)]) (st' := [.long (x3 : Int32).toInt64, .long (x2 : Int32).toInt64, .int x3]) [.iload_n 3, .iload_n 2, .i2l, .iload_n 3, .i2l] (by decide +kernel) rfl ?_
    obtain ⟨v3, hv3, h⟩ := zbind h
    refine zV_roS (idx := 276) (rest := [.int x3]) (fun Q2 hQ2 => ck_gcd s0 D cB cI cJ cD n (x2 : Int32).toInt64 (x3 : Int32).toInt64  v3 hv3  hQ2) oX2_commonDivisor (zT_mem 1181 (by decide +kernel) rfl) (zT_mem 690 (by decide +kernel) rfl) rfl rfl (Nat.le_of_ble_eq_true rfl) ⟨by decide, by decide⟩ (by decide +kernel) ?_
    refine zV_eq (st2 := [.long v3, .int x3]) rfl rfl rfl rfl ?_
    refine zV_blk (pc' := 24) (lo' := [(0, .ref al), (1, .ref a1), (2, .int x2), (3, .int x3)]) (st' := [.int (v3 : Int64).toInt32, .int x3]) [.l2i] (by decide +kernel) rfl ?_
    obtain ⟨hz, h⟩ := zck_some h
    refine zV_idiv (by decide +kernel) (of_decide_eq_true hz) ?_
    refine zV_blk (pc' := 28) (lo' := [(4, .int (x3 / (v3 : Int64).toInt32)), (0, .ref al), (1, .ref a1), (2, .int x2), (3, .int x3)]) (st' := [.ref a1]) [.istore 4, .aload_n 1] (by decide +kernel) rfl ?_
    obtain ⟨b4, b5, b6, hc7, hc8, hc9, hc10⟩ := ho1
    refine zV_get (ci := 0) (idx := 166) (k := 2) (N := 3) (fs := [.ref b4, .ref b5, .ref b6]) (v := .ref b6) (Or.inl hc7) rfl z_in0 (by decide) (zT_mem 568 (by decide +kernel) rfl) rfl (by decide +kernel) ?_
    obtain ⟨v11, hv11, h⟩ := zbind h
    refine zV_roV (idx := 280) (rest := []) (fs := [.int x1.2.2.1, .int x1.2.2.2.1, .int x1.2.2.2.2.1, .int x1.2.2.2.2.2.1, .int x1.2.2.2.2.2.2]) (ci := 10) (fun Q2 hQ2 => ck_beginUnits s0 D cB cI cJ cD x1.2.2 b6 v11 hv11 hc10 hQ2) oX10_beginUnits (Or.inl hc10) rfl (zT_mem 1182 (by decide +kernel) rfl) (zT_mem 1135 (by decide +kernel) rfl) (zT_mem 1136 (by decide +kernel) rfl) rfl rfl (Nat.le_of_ble_eq_true rfl) ⟨by decide, by decide⟩ (by decide +kernel) ?_
    refine zV_eq (st2 := [.long v11]) rfl rfl rfl rfl ?_
    refine zV_blk (pc' := 40) (lo' := [(5, .long v11), (4, .int (x3 / (v3 : Int64).toInt32)), (0, .ref al), (1, .ref a1), (2, .int x2), (3, .int x3)]) (st' := [.int (x3 - 1), .ref a1]) [.lstore 5, .aload_n 1, .iload_n 3, .iconst 1, .isub] (by decide +kernel) rfl ?_
    obtain ⟨v12, hv12, h⟩ := zbind h
    refine zV_roV (idx := 284) (rest := []) (fs := [.ref b4, .ref b5, .ref b6]) (ci := 0) (fun Q2 hQ2 => ck_slipUnits s0 D cB cI cJ cD n x1 (x3 - 1) a1 v12 hv12 ⟨b4, b5, b6, hc7, hc8, hc9, hc10⟩ hQ2) oX0_slipUnits (Or.inl hc7) rfl (zT_mem 1176 (by decide +kernel) rfl) (zT_mem 1123 (by decide +kernel) rfl) (zT_mem 1124 (by decide +kernel) rfl) rfl rfl (Nat.le_of_ble_eq_true rfl) ⟨by decide, by decide⟩ (by decide +kernel) ?_
    refine zV_eq (st2 := [.long v12]) rfl rfl rfl rfl ?_
    refine zV_blk (pc' := 49) (lo' := [(9, .long v12), (7, .long v12), (5, .long v11), (4, .int (x3 / (v3 : Int64).toInt32)), (0, .ref al), (1, .ref a1), (2, .int x2), (3, .int x3)]) (st' := []) [.lstore 7, .lload 7, .lstore 9] (by decide +kernel) rfl ?_
    refine zV_ldc2 (idx := 287) (v := 4611686018427387904) (zT_mem 1175 (by decide +kernel) rfl) (by decide +kernel) ?_
    refine zV_blk (pc' := 62) (lo' := [(14, .int (x3 - 1)), (13, .int 0), (11, .long 4611686018427387904), (9, .long v12), (7, .long v12), (5, .long v11), (4, .int (x3 / (v3 : Int64).toInt32)), (0, .ref al), (1, .ref a1), (2, .int x2), (3, .int x3)]) (st' := []) [.lstore 11, .iconst 0, .istore 13, .iload_n 3, .iconst 1, .isub, .istore 14] (by decide +kernel) rfl ?_
    refine zV_pick (lo2 := [(0, .ref al), (1, .ref a1), (2, .int x2), (3, .int x3), (4, .int (x3 / (v3 : Int64).toInt32)), (5, .long v11), (7, .long v12), (9, .long v12), (11, .long 4611686018427387904), (13, .int 0), (14, .int (x3 - 1))]) [7, 8, 9, 10, 6, 5, 4, 3, 2, 1, 0] rfl ?_
    exact cw_keepingShift_62L s0 D X cB cI cJ cD al l1 l2 l3 l4 l5 A tp dv cs cv jv bo v1.1 v1.2 sb n x1 x2 x3 (x3 / (v3 : Int64).toInt32) v11 a1 n (v12, v12, 4611686018427387904, 0, (x3 - 1)) hW ⟨b4, b5, b6, hc7, hc8, hc9, hc10⟩ hXX hFr h hQ
  · replace h := zif_neg q h
    clear q
    refine zV_less (mc' := 0) (ms' := 0) (by decide) (by decide) ?_
    refine zV_blk (pc' := 8) (lo' := [(0, .ref al), (1, .ref a1), (2, .int x2), (3, .int x3)]) (st' := [.int (-1)]) [.iconst (-1)] (by decide +kernel) rfl ?_
    obtain rfl := Option.some.inj h
    exact zV_iret rfl (by decide +kernel) (hQ _ rfl _ _ _ hXX hW hFr)
set_option maxHeartbeats 4000000 in
set_option maxRecDepth 100000 in
theorem cw_keepingShiftS (s0 : State) (D : va_G) (X : Nat → Prop) (cB cI cJ cD : ClassId) (al l1 l2 l3 l4 l5 : Nat) (A : Nat → Int32) (tp : Nat → Int32) (dv : Nat → Option vDes) (cs : Nat → Int32) (cv : Nat → Option vDes) (jv : Option vJoint) (bo : Option (Nat → Int32)) (hg : Option (Nat → Int64)) (lw : Option (Nat → Int64)) (sb : vSB) (n : Nat) (x1 : vDes) (x2 : Int32) (x3 : Int32) (a1 : Nat) (x : Int32 × (Option (Nat → Int64)) × (Option (Nat → Int64))) (h : w_keepingShift n hg lw x1 x2 x3 = some x) {hi hm : zHp} {nx : Nat} {Q : Option Value → zHp → zHp → Nat → Prop} (hW : lW X cB cI cJ cD al l1 l2 l3 l4 l5 A tp dv cs cv jv bo hg lw sb hi hm) (ho1 : iDes cI hi a1 x1) (hb_hg : hg ≠ none) (hb_lw : lw ≠ none) (hQ0 : ∀ (hi' hm' : zHp) (nx' : Nat), zX hi hi' → lW X cB cI cJ cD al l1 l2 l3 l4 l5 A tp dv cs cv jv bo x.2.1 x.2.2 sb hi' hm' → lFr X hm hm' → Q (some (.int x.1)) hi' hm' nx') : zM s0 D (zty cB cI cJ cD) yX11_keepingShift cX11_keepingShift 24 (some .int) 5 117 0 0 [.ref al, .ref a1, .int x2, .int x3] hi hm nx Q := by
  have hQ : ∀ r : Int32 × (Option (Nat → Int64)) × (Option (Nat → Int64)), x = r → ∀ (hi' hm' : zHp) (nx' : Nat), zX hi hi' → lW X cB cI cJ cD al l1 l2 l3 l4 l5 A tp dv cs cv jv bo r.2.1 r.2.2 sb hi' hm' → lFr X hm hm' → Q (some (.int r.1)) hi' hm' nx' := fun r hr => by subst hr; exact hQ0
  clear hQ0
  have hXX : zX hi hi := zX.rf
  have hFr : lFr X hm hm := lFr.rf
  refine zM_of (by decide +kernel) (Nat.le_of_ble_eq_true rfl) ?_
  unfold w_keepingShift at h
  refine zV_eq (lo2 := [(0, .ref al), (1, .ref a1), (2, .int x2), (3, .int x3)]) rfl rfl rfl rfl ?_
  refine zV_blk (pc' := 4) (lo' := [(0, .ref al), (1, .ref a1), (2, .int x2), (3, .int x3)]) (st' := [.int 1000, .int x3]) [.iload_n 3, .sipush 1000] (by decide +kernel) rfl ?_
  refine zV_icmp_le (tgt := 9) (off := 5) (by decide +kernel) (by decide) (fun q => ?_) (fun q => ?_)
  · replace h := zif_pos q h
    clear q
    refine zV_blk (pc' := 12) (lo' := [(0, .ref al), (1, .ref a1), (2, .int x2), (3, .int x3)]) (st' := [.int x3, .ref a1, .ref al]) [.aload_n 0, .aload_n 1, .iload_n 3] (by decide +kernel) rfl ?_
    obtain ⟨v1, hv1, h⟩ := zbind h
    refine l_call (mc := 0) (ms := 0) (idx := 272) (As := [.ref a1, .int x3]) (rest := []) hW (fun Q2 hQ2 => cw_fillHeadsS s0 D X cB cI cJ cD al l1 l2 l3 l4 l5 A tp dv cs cv jv bo hg lw sb n x1 x3 a1 v1 hv1 hW ho1 hb_hg hb_lw hQ2) oX11_fillHeads rfl (zT_mem 1170 (by decide +kernel) rfl) (zT_mem 1172 (by decide +kernel) rfl) (zT_mem 14 (by decide +kernel) rfl) rfl rfl (Nat.le_of_ble_eq_true rfl) ⟨by decide, by decide⟩ (by decide +kernel) ?_
    intro hi2 hm2 nx2 hX hW2 hFr2
    replace ho1 := ho1.mono hX
    clear hW; have hW := hW2; clear hW2
    replace hXX := hXX.tr hX; clear hX
    replace hFr := hFr.tr hFr2; clear hFr2
    refine zV_eq (st2 := []) rfl rfl rfl rfl ?_
    refine zV_blk (pc' := 20) (lo' := [(0, .ref al), (1, .ref a1), (2, .int x2), (3, .int x3)]) (st' := [.long (x3 : Int32).toInt64, .long (x2 : Int32).toInt64, .int x3]) [.iload_n 3, .iload_n 2, .i2l, .iload_n 3, .i2l] (by decide +kernel) rfl ?_
    obtain ⟨v3, hv3, h⟩ := zbind h
    refine zV_roS (idx := 276) (rest := [.int x3]) (fun Q2 hQ2 => ck_gcd s0 D cB cI cJ cD n (x2 : Int32).toInt64 (x3 : Int32).toInt64  v3 hv3  hQ2) oX2_commonDivisor (zT_mem 1181 (by decide +kernel) rfl) (zT_mem 690 (by decide +kernel) rfl) rfl rfl (Nat.le_of_ble_eq_true rfl) ⟨by decide, by decide⟩ (by decide +kernel) ?_
    refine zV_eq (st2 := [.long v3, .int x3]) rfl rfl rfl rfl ?_
    refine zV_blk (pc' := 24) (lo' := [(0, .ref al), (1, .ref a1), (2, .int x2), (3, .int x3)]) (st' := [.int (v3 : Int64).toInt32, .int x3]) [.l2i] (by decide +kernel) rfl ?_
    obtain ⟨hz, h⟩ := zck_some h
    refine zV_idiv (by decide +kernel) (of_decide_eq_true hz) ?_
    refine zV_blk (pc' := 28) (lo' := [(4, .int (x3 / (v3 : Int64).toInt32)), (0, .ref al), (1, .ref a1), (2, .int x2), (3, .int x3)]) (st' := [.ref a1]) [.istore 4, .aload_n 1] (by decide +kernel) rfl ?_
    obtain ⟨b4, b5, b6, hc7, hc8, hc9, hc10⟩ := ho1
    refine zV_get (ci := 0) (idx := 166) (k := 2) (N := 3) (fs := [.ref b4, .ref b5, .ref b6]) (v := .ref b6) (Or.inl hc7) rfl z_in0 (by decide) (zT_mem 568 (by decide +kernel) rfl) rfl (by decide +kernel) ?_
    obtain ⟨v11, hv11, h⟩ := zbind h
    refine zV_roV (idx := 280) (rest := []) (fs := [.int x1.2.2.1, .int x1.2.2.2.1, .int x1.2.2.2.2.1, .int x1.2.2.2.2.2.1, .int x1.2.2.2.2.2.2]) (ci := 10) (fun Q2 hQ2 => ck_beginUnits s0 D cB cI cJ cD x1.2.2 b6 v11 hv11 hc10 hQ2) oX10_beginUnits (Or.inl hc10) rfl (zT_mem 1182 (by decide +kernel) rfl) (zT_mem 1135 (by decide +kernel) rfl) (zT_mem 1136 (by decide +kernel) rfl) rfl rfl (Nat.le_of_ble_eq_true rfl) ⟨by decide, by decide⟩ (by decide +kernel) ?_
    refine zV_eq (st2 := [.long v11]) rfl rfl rfl rfl ?_
    refine zV_blk (pc' := 40) (lo' := [(5, .long v11), (4, .int (x3 / (v3 : Int64).toInt32)), (0, .ref al), (1, .ref a1), (2, .int x2), (3, .int x3)]) (st' := [.int (x3 - 1), .ref a1]) [.lstore 5, .aload_n 1, .iload_n 3, .iconst 1, .isub] (by decide +kernel) rfl ?_
    obtain ⟨v12, hv12, h⟩ := zbind h
    refine zV_roV (idx := 284) (rest := []) (fs := [.ref b4, .ref b5, .ref b6]) (ci := 0) (fun Q2 hQ2 => ck_slipUnits s0 D cB cI cJ cD n x1 (x3 - 1) a1 v12 hv12 ⟨b4, b5, b6, hc7, hc8, hc9, hc10⟩ hQ2) oX0_slipUnits (Or.inl hc7) rfl (zT_mem 1176 (by decide +kernel) rfl) (zT_mem 1123 (by decide +kernel) rfl) (zT_mem 1124 (by decide +kernel) rfl) rfl rfl (Nat.le_of_ble_eq_true rfl) ⟨by decide, by decide⟩ (by decide +kernel) ?_
    refine zV_eq (st2 := [.long v12]) rfl rfl rfl rfl ?_
    refine zV_blk (pc' := 49) (lo' := [(9, .long v12), (7, .long v12), (5, .long v11), (4, .int (x3 / (v3 : Int64).toInt32)), (0, .ref al), (1, .ref a1), (2, .int x2), (3, .int x3)]) (st' := []) [.lstore 7, .lload 7, .lstore 9] (by decide +kernel) rfl ?_
    refine zV_ldc2 (idx := 287) (v := 4611686018427387904) (zT_mem 1175 (by decide +kernel) rfl) (by decide +kernel) ?_
    refine zV_blk (pc' := 62) (lo' := [(14, .int (x3 - 1)), (13, .int 0), (11, .long 4611686018427387904), (9, .long v12), (7, .long v12), (5, .long v11), (4, .int (x3 / (v3 : Int64).toInt32)), (0, .ref al), (1, .ref a1), (2, .int x2), (3, .int x3)]) (st' := []) [.lstore 11, .iconst 0, .istore 13, .iload_n 3, .iconst 1, .isub, .istore 14] (by decide +kernel) rfl ?_
    refine zV_pick (lo2 := [(0, .ref al), (1, .ref a1), (2, .int x2), (3, .int x3), (4, .int (x3 / (v3 : Int64).toInt32)), (5, .long v11), (7, .long v12), (9, .long v12), (11, .long 4611686018427387904), (13, .int 0), (14, .int (x3 - 1))]) [7, 8, 9, 10, 6, 5, 4, 3, 2, 1, 0] rfl ?_
    exact cw_keepingShift_62L s0 D X cB cI cJ cD al l1 l2 l3 l4 l5 A tp dv cs cv jv bo v1.1 v1.2 sb n x1 x2 x3 (x3 / (v3 : Int64).toInt32) v11 a1 n (v12, v12, 4611686018427387904, 0, (x3 - 1)) hW ⟨b4, b5, b6, hc7, hc8, hc9, hc10⟩ hXX hFr h hQ
  · replace h := zif_neg q h
    clear q
    refine zV_blk (pc' := 8) (lo' := [(0, .ref al), (1, .ref a1), (2, .int x2), (3, .int x3)]) (st' := [.int (-1)]) [.iconst (-1)] (by decide +kernel) rfl ?_
    obtain rfl := Option.some.inj h
    exact zV_iret rfl (by decide +kernel) (hQ _ rfl _ _ _ hXX hW hFr)

def w_keeps (n : Nat) (dv : Nat → Option vDes) (hg : Option (Nat → Int64)) (lw : Option (Nat → Int64)) (x1 : Int32) : Option (Int32 × (Option (Nat → Int64)) × (Option (Nat → Int64))) := (k_designAt dv x1).bind (fun v1 => zOm (v1) (some ((-1), hg, lw)) (fun z3 => zEv z3.2.1 (fun e12 => (k_newEven e12.1 e12.2.1 0).bind (fun v18 => (k_withLaw z3 (.inr (.inl v18))).bind (fun v21 => (w_keepingShift n hg lw v21 e12.1 e12.2.1).bind (fun v25 => some (v25.1, v25.2.1, v25.2.2))))) (some ((-1), hg, lw))))
theorem oX11_keeps : zO yX11_keeps cX11_keeps 5 (some .int) 1 := ⟨zT_mem 1165 (by decide +kernel) rfl, zT_mem 89 (by decide +kernel) rfl, by decide +kernel, by decide +kernel, by decide +kernel⟩
set_option maxHeartbeats 4000000 in
set_option maxRecDepth 100000 in
theorem cw_keeps (s0 : State) (D : va_G) (X : Nat → Prop) (cB cI cJ cD : ClassId) (al l1 l2 l3 l4 l5 : Nat) (A : Nat → Int32) (tp : Nat → Int32) (dv : Nat → Option vDes) (cs : Nat → Int32) (cv : Nat → Option vDes) (jv : Option vJoint) (bo : Option (Nat → Int32)) (hg : Option (Nat → Int64)) (lw : Option (Nat → Int64)) (sb : vSB) (n : Nat) (x1 : Int32) (x : Int32 × (Option (Nat → Int64)) × (Option (Nat → Int64))) (h : w_keeps n dv hg lw x1 = some x) {hi hm : zHp} {nx : Nat} {Q : Option Value → zHp → zHp → Nat → Prop} (hW : lW X cB cI cJ cD al l1 l2 l3 l4 l5 A tp dv cs cv jv bo hg lw sb hi hm) (hQ0 : ∀ (hi' hm' : zHp) (nx' : Nat), zX hi hi' → lW X cB cI cJ cD al l1 l2 l3 l4 l5 A tp dv cs cv jv bo x.2.1 x.2.2 sb hi' hm' → lFr X hm hm' → Q (some (.int x.1)) hi' hm' nx') : zM s0 D (zty cB cI cJ cD) yX11_keeps cX11_keeps 5 (some .int) 6 160 4 2006 [.ref al, .int x1] hi hm nx Q := by
  have hQ : ∀ r : Int32 × (Option (Nat → Int64)) × (Option (Nat → Int64)), x = r → ∀ (hi' hm' : zHp) (nx' : Nat), zX hi hi' → lW X cB cI cJ cD al l1 l2 l3 l4 l5 A tp dv cs cv jv bo r.2.1 r.2.2 sb hi' hm' → lFr X hm hm' → Q (some (.int r.1)) hi' hm' nx' := fun r hr => by subst hr; exact hQ0
  clear hQ0
  have hXX : zX hi hi := zX.rf
  have hFr : lFr X hm hm := lFr.rf
  refine zM_of (by decide +kernel) (Nat.le_of_ble_eq_true rfl) ?_
  unfold w_keeps at h
  refine zV_eq (lo2 := [(0, .ref al), (1, .int x1)]) rfl rfl rfl rfl ?_
  refine zV_blk (pc' := 2) (lo' := [(0, .ref al), (1, .int x1)]) (st' := [.int x1, .ref al]) [.aload_n 0, .iload_n 1] (by decide +kernel) rfl ?_
  obtain ⟨v1, hv1, h⟩ := zbind h
  refine zV_designAt (idx := 105) (rest := []) v1 hv1 hW.ld (zT_mem 603 (by decide +kernel) rfl) rfl (Nat.le_of_ble_eq_true rfl) ⟨by decide, by decide⟩ (by decide +kernel) (fun hx => ?_) (fun b2 z3 hx ho4 => ?_)
  · rw [hx] at h; replace h := zOm_none h
    refine zV_blk (pc' := 7) (lo' := [(2, .null), (0, .ref al), (1, .int x1)]) (st' := [.null]) [.astore_n 2, .aload_n 2] (by decide +kernel) rfl ?_
    refine zV_ifnull (r := none) (tgt := 33) (off := 26) (by decide +kernel) (by decide) (fun _ => ?_) (fun _ q => by cases q)
    refine zV_less (mc' := 0) (ms' := 0) (by decide) (by decide) ?_
    refine zV_blk (pc' := 34) (lo' := [(2, .null), (0, .ref al), (1, .int x1)]) (st' := [.int (-1)]) [.iconst (-1)] (by decide +kernel) rfl ?_
    obtain rfl := Option.some.inj h
    exact zV_iret rfl (by decide +kernel) (hQ _ rfl _ _ _ hXX hW hFr)
  · rw [hx] at h; replace h := zOm_some h
    refine zV_blk (pc' := 7) (lo' := [(2, .ref b2), (0, .ref al), (1, .int x1)]) (st' := [.ref b2]) [.astore_n 2, .aload_n 2] (by decide +kernel) rfl ?_
    refine zV_ifnull (r := some b2) (tgt := 33) (off := 26) (by decide +kernel) (by decide) (fun q => by cases q) (fun _ _ => ?_)
    refine zV_blk (pc' := 11) (lo' := [(2, .ref b2), (0, .ref al), (1, .int x1)]) (st' := [.ref b2]) [.aload_n 2] (by decide +kernel) rfl ?_
    obtain ⟨b5, b6, b7, hc8, hc9, hc10, hc11⟩ := ho4
    refine zV_get (ci := 0) (idx := 95) (k := 1) (N := 3) (fs := [.ref b5, .ref b6, .ref b7]) (v := .ref b6) (Or.inl hc8) rfl z_in0 (by decide) (zT_mem 566 (by decide +kernel) rfl) rfl (by decide +kernel) ?_
    refine zV_blk (pc' := 18) (lo' := [(4, .ref b6), (2, .ref b2), (0, .ref al), (1, .int x1)]) (st' := [.ref b6]) [.astore 4, .aload 4] (by decide +kernel) rfl ?_
    have hk14 := hc10
    rcases hg13 : z3.2.1 with u | e12 | e12 | e12
    · rw [hg13] at hk14; replace h := zEv_n hg13 h
      have hk9 := hk14
      refine zV_instNo (ci := 6) (idx := 143) (nm := "LeapDesigner$EvenLaw") (Or.inl hk9) rfl (zT_mem 655 (by decide +kernel) rfl) (by decide +kernel) (by decide +kernel) ?_
      refine zV_if_eq (tgt := 33) (off := 12) (by decide +kernel) (by decide) (fun _ => ?_) (fun q => absurd q (by decide +kernel))
      refine zV_less (mc' := 0) (ms' := 0) (by decide) (by decide) ?_
      refine zV_blk (pc' := 34) (lo' := [(4, .ref b6), (2, .ref b2), (0, .ref al), (1, .int x1)]) (st' := [.int (-1)]) [.iconst (-1)] (by decide +kernel) rfl ?_
      obtain rfl := Option.some.inj h
      exact zV_iret rfl (by decide +kernel) (hQ _ rfl _ _ _ hXX hW hFr)
    · rw [hg13] at hk14; replace h := zEv_e hg13 h
      refine zV_instY (ci := 1) (idx := 143) (fs := [.int e12.1, .int e12.2.1, .int e12.2.2]) (Or.inl hk14) rfl (zT_mem 655 (by decide +kernel) rfl) (by decide +kernel) ?_
      refine zV_if_eq (tgt := 33) (off := 12) (by decide +kernel) (by decide) (fun q => absurd q (by decide +kernel)) (fun _ => ?_)
      refine zV_blk (pc' := 26) (lo' := [(4, .ref b6), (2, .ref b2), (0, .ref al), (1, .int x1)]) (st' := [.ref b6]) [.aload 4] (by decide +kernel) rfl ?_
      refine zV_castY (ci := 1) (idx := 143) (fs := [.int e12.1, .int e12.2.1, .int e12.2.2]) (Or.inl hk14) rfl (zT_mem 655 (by decide +kernel) rfl) (by decide +kernel) ?_
      refine zV_blk (pc' := 30) (lo' := [(3, .ref b6), (4, .ref b6), (2, .ref b2), (0, .ref al), (1, .int x1)]) (st' := []) [.astore_n 3] (by decide +kernel) rfl ?_
      refine zV_goto (tgt := 35) (off := 5) (by decide +kernel) (by decide) ?_
      refine zV_blk (pc' := 37) (lo' := [(3, .ref b6), (4, .ref b6), (2, .ref b2), (0, .ref al), (1, .int x1)]) (st' := [.ref b2, .ref al]) [.aload_n 0, .aload_n 2] (by decide +kernel) rfl ?_
      refine zV_newX (mc := 3) (ms := 2003) (ci := 1) (idx := 143) (N := 3) (fs := [.int 0, .int 0, .int 0]) tyX1 rfl z_in1 tyX1_ok (zT_mem 655 (by decide +kernel) rfl) (zT_mem 427 (by decide +kernel) rfl) (zT_mem 102 (by decide +kernel) rfl) (fun j hj => by rcases (show j = 0 ∨ j = 1 ∨ j = 2 by omega) with rfl | rfl | rfl <;> rfl) (by decide +kernel) (fun _ hn16 => ?_)
      obtain ⟨b17, heb17⟩ : ∃ z : Nat, z = nx := ⟨_, rfl⟩
      rw [← heb17] at hn16 ⊢
      obtain ⟨nb17, henb17⟩ : ∃ z : Nat, z = b17 + 1 := ⟨_, rfl⟩
      rw [← henb17]; clear henb17 heb17
      refine zV_blk (pc' := 42) (lo' := [(3, .ref b6), (4, .ref b6), (2, .ref b2), (0, .ref al), (1, .int x1)]) (st' := [.ref b6, .ref b17, .ref b17, .ref b2, .ref al]) [.dup, .aload_n 3] (by decide +kernel) rfl ?_
      refine zV_get (ci := 1) (idx := 145) (k := 0) (N := 3) (fs := [.int e12.1, .int e12.2.1, .int e12.2.2]) (v := .int e12.1) (Or.inl hk14) rfl z_in1 (by decide) (zT_mem 439 (by decide +kernel) rfl) rfl (by decide +kernel) ?_
      refine zV_blk (pc' := 46) (lo' := [(3, .ref b6), (4, .ref b6), (2, .ref b2), (0, .ref al), (1, .int x1)]) (st' := [.ref b6, .int e12.1, .ref b17, .ref b17, .ref b2, .ref al]) [.aload_n 3] (by decide +kernel) rfl ?_
      refine zV_get (ci := 1) (idx := 148) (k := 1) (N := 3) (fs := [.int e12.1, .int e12.2.1, .int e12.2.2]) (v := .int e12.2.1) (Or.inl hk14) rfl z_in1 (by decide) (zT_mem 441 (by decide +kernel) rfl) rfl (by decide +kernel) ?_
      refine zV_blk (pc' := 50) (lo' := [(3, .ref b6), (4, .ref b6), (2, .ref b2), (0, .ref al), (1, .int x1)]) (st' := [.int 0, .int e12.2.1, .int e12.1, .ref b17, .ref b17, .ref b2, .ref al]) [.iconst 0] (by decide +kernel) rfl ?_
      obtain ⟨v18, hv18, h⟩ := zbind h
      refine zV_mk (idx := 185) (As := [.int e12.1, .int e12.2.1, .int 0]) (rest := [.ref b17, .ref b2, .ref al]) (e := .inr (1, [.int v18.1, .int v18.2.1, .int v18.2.2])) (fun Q2 hQ2 => ck_newEven s0 D cB cI cJ cD e12.1 e12.2.1 0 b17  v18 hv18  (by simp [va_up]) hQ2) oX1_init rfl (zT_mem 741 (by decide +kernel) rfl) (zT_mem 434 (by decide +kernel) rfl) rfl rfl (Nat.le_of_ble_eq_true rfl) ⟨by decide, by decide⟩ (by decide +kernel) hn16 (fun hi2 hX hc19 => ?_)
      replace hk14 := hX _ _ hk14
      replace hc8 := hX _ _ hc8
      replace hc9 := hc9.mono hX
      replace hc10 := hc10.mono hX
      replace hc11 := hc11.mono hX
      replace hW := hW.mono hX
      replace hXX := hXX.tr hX; clear hX
      have ho20 : iEven hi2 b17 v18 := hc19
      obtain ⟨v21, hv21, h⟩ := zbind h
      refine zV_alV (mc := 2) (ms := 2000) (fun hi' v' => ∃ a' : Nat, v' = some (.ref a') ∧ iDes cI hi' a' v21) (idx := 188) (rest := [.ref al]) (fs := [.ref b5, .ref b6, .ref b7]) (ci := 0) (fun Q2 hQ2 => ck_withLaw s0 D cB cI cJ cD z3 (.inr (.inl v18)) b2 b17 v21 hv21 ⟨b5, b6, b7, hc8, hc9, hc10, hc11⟩ ho20 (fun a' hi' nx' hX hr => hQ2 _ _ _ hX ⟨a', rfl, hr⟩)) oX0_withLaw (Or.inl hc8) rfl (zT_mem 742 (by decide +kernel) rfl) (zT_mem 743 (by decide +kernel) rfl) (zT_mem 744 (by decide +kernel) rfl) rfl rfl (Nat.le_of_ble_eq_true rfl) ⟨by decide, by decide⟩ (by decide +kernel) ?_
      rintro _ hi2 nx24 hX ⟨b22, rfl, ho23⟩
      replace hk14 := hX _ _ hk14
      replace hc8 := hX _ _ hc8
      replace hc9 := hc9.mono hX
      replace hc10 := hc10.mono hX
      replace hc11 := hc11.mono hX
      replace hW := hW.mono hX
      replace hXX := hXX.tr hX; clear hX
      refine zV_eq (st2 := [.ref b22, .ref al]) rfl rfl rfl rfl ?_
      refine zV_blk (pc' := 57) (lo' := [(3, .ref b6), (4, .ref b6), (2, .ref b2), (0, .ref al), (1, .int x1)]) (st' := [.ref b6, .ref b22, .ref al]) [.aload_n 3] (by decide +kernel) rfl ?_
      refine zV_get (ci := 1) (idx := 145) (k := 0) (N := 3) (fs := [.int e12.1, .int e12.2.1, .int e12.2.2]) (v := .int e12.1) (Or.inl hk14) rfl z_in1 (by decide) (zT_mem 439 (by decide +kernel) rfl) rfl (by decide +kernel) ?_
      refine zV_blk (pc' := 61) (lo' := [(3, .ref b6), (4, .ref b6), (2, .ref b2), (0, .ref al), (1, .int x1)]) (st' := [.ref b6, .int e12.1, .ref b22, .ref al]) [.aload_n 3] (by decide +kernel) rfl ?_
      refine zV_get (ci := 1) (idx := 148) (k := 1) (N := 3) (fs := [.int e12.1, .int e12.2.1, .int e12.2.2]) (v := .int e12.2.1) (Or.inl hk14) rfl z_in1 (by decide) (zT_mem 441 (by decide +kernel) rfl) rfl (by decide +kernel) ?_
      obtain ⟨v25, hv25, h⟩ := zbind h
      refine l_call (mc := 0) (ms := 0) (idx := 268) (As := [.ref b22, .int e12.1, .int e12.2.1]) (rest := []) hW (fun Q2 hQ2 => cw_keepingShift s0 D X cB cI cJ cD al l1 l2 l3 l4 l5 A tp dv cs cv jv bo hg lw sb n v21 e12.1 e12.2.1 b22 v25 hv25 hW ho23  hQ2) oX11_keepingShift rfl (zT_mem 1166 (by decide +kernel) rfl) (zT_mem 1168 (by decide +kernel) rfl) (zT_mem 13 (by decide +kernel) rfl) rfl rfl (Nat.le_of_ble_eq_true rfl) ⟨by decide, by decide⟩ (by decide +kernel) ?_
      intro hi2 hm2 nx26 hX hW2 hFr2
      replace hk14 := hX _ _ hk14
      replace hc8 := hX _ _ hc8
      replace hc9 := hc9.mono hX
      replace hc10 := hc10.mono hX
      replace hc11 := hc11.mono hX
      clear hW; have hW := hW2; clear hW2
      replace hXX := hXX.tr hX; clear hX
      replace hFr := hFr.tr hFr2; clear hFr2
      refine zV_eq (st2 := [.int v25.1]) rfl rfl rfl rfl ?_
      obtain rfl := Option.some.inj h
      exact zV_iret rfl (by decide +kernel) (hQ _ rfl _ _ _ hXX hW hFr)
    · rw [hg13] at hk14; replace h := zEv_l hg13 h
      obtain ⟨_, hk9, _⟩ := id hk14
      refine zV_instNo (ci := 5) (idx := 143) (nm := "LeapDesigner$EvenLaw") (Or.inl hk9) rfl (zT_mem 655 (by decide +kernel) rfl) (by decide +kernel) (by decide +kernel) ?_
      refine zV_if_eq (tgt := 33) (off := 12) (by decide +kernel) (by decide) (fun _ => ?_) (fun q => absurd q (by decide +kernel))
      refine zV_less (mc' := 0) (ms' := 0) (by decide) (by decide) ?_
      refine zV_blk (pc' := 34) (lo' := [(4, .ref b6), (2, .ref b2), (0, .ref al), (1, .int x1)]) (st' := [.int (-1)]) [.iconst (-1)] (by decide +kernel) rfl ?_
      obtain rfl := Option.some.inj h
      exact zV_iret rfl (by decide +kernel) (hQ _ rfl _ _ _ hXX hW hFr)
    · rw [hg13] at hk14; replace h := zEv_w hg13 h
      obtain ⟨_, hk9, _⟩ := id hk14
      refine zV_instNo (ci := 8) (idx := 143) (nm := "LeapDesigner$EvenLaw") (Or.inl hk9) rfl (zT_mem 655 (by decide +kernel) rfl) (by decide +kernel) (by decide +kernel) ?_
      refine zV_if_eq (tgt := 33) (off := 12) (by decide +kernel) (by decide) (fun _ => ?_) (fun q => absurd q (by decide +kernel))
      refine zV_less (mc' := 0) (ms' := 0) (by decide) (by decide) ?_
      refine zV_blk (pc' := 34) (lo' := [(4, .ref b6), (2, .ref b2), (0, .ref al), (1, .int x1)]) (st' := [.int (-1)]) [.iconst (-1)] (by decide +kernel) rfl ?_
      obtain rfl := Option.some.inj h
      exact zV_iret rfl (by decide +kernel) (hQ _ rfl _ _ _ hXX hW hFr)
set_option maxHeartbeats 4000000 in
set_option maxRecDepth 100000 in
theorem cw_keepsS (s0 : State) (D : va_G) (X : Nat → Prop) (cB cI cJ cD : ClassId) (al l1 l2 l3 l4 l5 : Nat) (A : Nat → Int32) (tp : Nat → Int32) (dv : Nat → Option vDes) (cs : Nat → Int32) (cv : Nat → Option vDes) (jv : Option vJoint) (bo : Option (Nat → Int32)) (hg : Option (Nat → Int64)) (lw : Option (Nat → Int64)) (sb : vSB) (n : Nat) (x1 : Int32) (x : Int32 × (Option (Nat → Int64)) × (Option (Nat → Int64))) (h : w_keeps n dv hg lw x1 = some x) {hi hm : zHp} {nx : Nat} {Q : Option Value → zHp → zHp → Nat → Prop} (hW : lW X cB cI cJ cD al l1 l2 l3 l4 l5 A tp dv cs cv jv bo hg lw sb hi hm) (hb_hg : hg ≠ none) (hb_lw : lw ≠ none) (hQ0 : ∀ (hi' hm' : zHp) (nx' : Nat), zX hi hi' → lW X cB cI cJ cD al l1 l2 l3 l4 l5 A tp dv cs cv jv bo x.2.1 x.2.2 sb hi' hm' → lFr X hm hm' → Q (some (.int x.1)) hi' hm' nx') : zM s0 D (zty cB cI cJ cD) yX11_keeps cX11_keeps 5 (some .int) 6 160 2 6 [.ref al, .int x1] hi hm nx Q := by
  have hQ : ∀ r : Int32 × (Option (Nat → Int64)) × (Option (Nat → Int64)), x = r → ∀ (hi' hm' : zHp) (nx' : Nat), zX hi hi' → lW X cB cI cJ cD al l1 l2 l3 l4 l5 A tp dv cs cv jv bo r.2.1 r.2.2 sb hi' hm' → lFr X hm hm' → Q (some (.int r.1)) hi' hm' nx' := fun r hr => by subst hr; exact hQ0
  clear hQ0
  have hXX : zX hi hi := zX.rf
  have hFr : lFr X hm hm := lFr.rf
  refine zM_of (by decide +kernel) (Nat.le_of_ble_eq_true rfl) ?_
  unfold w_keeps at h
  refine zV_eq (lo2 := [(0, .ref al), (1, .int x1)]) rfl rfl rfl rfl ?_
  refine zV_blk (pc' := 2) (lo' := [(0, .ref al), (1, .int x1)]) (st' := [.int x1, .ref al]) [.aload_n 0, .iload_n 1] (by decide +kernel) rfl ?_
  obtain ⟨v1, hv1, h⟩ := zbind h
  refine zV_designAt (idx := 105) (rest := []) v1 hv1 hW.ld (zT_mem 603 (by decide +kernel) rfl) rfl (Nat.le_of_ble_eq_true rfl) ⟨by decide, by decide⟩ (by decide +kernel) (fun hx => ?_) (fun b2 z3 hx ho4 => ?_)
  · rw [hx] at h; replace h := zOm_none h
    refine zV_blk (pc' := 7) (lo' := [(2, .null), (0, .ref al), (1, .int x1)]) (st' := [.null]) [.astore_n 2, .aload_n 2] (by decide +kernel) rfl ?_
    refine zV_ifnull (r := none) (tgt := 33) (off := 26) (by decide +kernel) (by decide) (fun _ => ?_) (fun _ q => by cases q)
    refine zV_less (mc' := 0) (ms' := 0) (by decide) (by decide) ?_
    refine zV_blk (pc' := 34) (lo' := [(2, .null), (0, .ref al), (1, .int x1)]) (st' := [.int (-1)]) [.iconst (-1)] (by decide +kernel) rfl ?_
    obtain rfl := Option.some.inj h
    exact zV_iret rfl (by decide +kernel) (hQ _ rfl _ _ _ hXX hW hFr)
  · rw [hx] at h; replace h := zOm_some h
    refine zV_blk (pc' := 7) (lo' := [(2, .ref b2), (0, .ref al), (1, .int x1)]) (st' := [.ref b2]) [.astore_n 2, .aload_n 2] (by decide +kernel) rfl ?_
    refine zV_ifnull (r := some b2) (tgt := 33) (off := 26) (by decide +kernel) (by decide) (fun q => by cases q) (fun _ _ => ?_)
    refine zV_blk (pc' := 11) (lo' := [(2, .ref b2), (0, .ref al), (1, .int x1)]) (st' := [.ref b2]) [.aload_n 2] (by decide +kernel) rfl ?_
    obtain ⟨b5, b6, b7, hc8, hc9, hc10, hc11⟩ := ho4
    refine zV_get (ci := 0) (idx := 95) (k := 1) (N := 3) (fs := [.ref b5, .ref b6, .ref b7]) (v := .ref b6) (Or.inl hc8) rfl z_in0 (by decide) (zT_mem 566 (by decide +kernel) rfl) rfl (by decide +kernel) ?_
    refine zV_blk (pc' := 18) (lo' := [(4, .ref b6), (2, .ref b2), (0, .ref al), (1, .int x1)]) (st' := [.ref b6]) [.astore 4, .aload 4] (by decide +kernel) rfl ?_
    have hk14 := hc10
    rcases hg13 : z3.2.1 with u | e12 | e12 | e12
    · rw [hg13] at hk14; replace h := zEv_n hg13 h
      have hk9 := hk14
      refine zV_instNo (ci := 6) (idx := 143) (nm := "LeapDesigner$EvenLaw") (Or.inl hk9) rfl (zT_mem 655 (by decide +kernel) rfl) (by decide +kernel) (by decide +kernel) ?_
      refine zV_if_eq (tgt := 33) (off := 12) (by decide +kernel) (by decide) (fun _ => ?_) (fun q => absurd q (by decide +kernel))
      refine zV_less (mc' := 0) (ms' := 0) (by decide) (by decide) ?_
      refine zV_blk (pc' := 34) (lo' := [(4, .ref b6), (2, .ref b2), (0, .ref al), (1, .int x1)]) (st' := [.int (-1)]) [.iconst (-1)] (by decide +kernel) rfl ?_
      obtain rfl := Option.some.inj h
      exact zV_iret rfl (by decide +kernel) (hQ _ rfl _ _ _ hXX hW hFr)
    · rw [hg13] at hk14; replace h := zEv_e hg13 h
      refine zV_instY (ci := 1) (idx := 143) (fs := [.int e12.1, .int e12.2.1, .int e12.2.2]) (Or.inl hk14) rfl (zT_mem 655 (by decide +kernel) rfl) (by decide +kernel) ?_
      refine zV_if_eq (tgt := 33) (off := 12) (by decide +kernel) (by decide) (fun q => absurd q (by decide +kernel)) (fun _ => ?_)
      refine zV_blk (pc' := 26) (lo' := [(4, .ref b6), (2, .ref b2), (0, .ref al), (1, .int x1)]) (st' := [.ref b6]) [.aload 4] (by decide +kernel) rfl ?_
      refine zV_castY (ci := 1) (idx := 143) (fs := [.int e12.1, .int e12.2.1, .int e12.2.2]) (Or.inl hk14) rfl (zT_mem 655 (by decide +kernel) rfl) (by decide +kernel) ?_
      refine zV_blk (pc' := 30) (lo' := [(3, .ref b6), (4, .ref b6), (2, .ref b2), (0, .ref al), (1, .int x1)]) (st' := []) [.astore_n 3] (by decide +kernel) rfl ?_
      refine zV_goto (tgt := 35) (off := 5) (by decide +kernel) (by decide) ?_
      refine zV_blk (pc' := 37) (lo' := [(3, .ref b6), (4, .ref b6), (2, .ref b2), (0, .ref al), (1, .int x1)]) (st' := [.ref b2, .ref al]) [.aload_n 0, .aload_n 2] (by decide +kernel) rfl ?_
      refine zV_newX (mc := 1) (ms := 3) (ci := 1) (idx := 143) (N := 3) (fs := [.int 0, .int 0, .int 0]) tyX1 rfl z_in1 tyX1_ok (zT_mem 655 (by decide +kernel) rfl) (zT_mem 427 (by decide +kernel) rfl) (zT_mem 102 (by decide +kernel) rfl) (fun j hj => by rcases (show j = 0 ∨ j = 1 ∨ j = 2 by omega) with rfl | rfl | rfl <;> rfl) (by decide +kernel) (fun _ hn16 => ?_)
      obtain ⟨b17, heb17⟩ : ∃ z : Nat, z = nx := ⟨_, rfl⟩
      rw [← heb17] at hn16 ⊢
      obtain ⟨nb17, henb17⟩ : ∃ z : Nat, z = b17 + 1 := ⟨_, rfl⟩
      rw [← henb17]; clear henb17 heb17
      refine zV_blk (pc' := 42) (lo' := [(3, .ref b6), (4, .ref b6), (2, .ref b2), (0, .ref al), (1, .int x1)]) (st' := [.ref b6, .ref b17, .ref b17, .ref b2, .ref al]) [.dup, .aload_n 3] (by decide +kernel) rfl ?_
      refine zV_get (ci := 1) (idx := 145) (k := 0) (N := 3) (fs := [.int e12.1, .int e12.2.1, .int e12.2.2]) (v := .int e12.1) (Or.inl hk14) rfl z_in1 (by decide) (zT_mem 439 (by decide +kernel) rfl) rfl (by decide +kernel) ?_
      refine zV_blk (pc' := 46) (lo' := [(3, .ref b6), (4, .ref b6), (2, .ref b2), (0, .ref al), (1, .int x1)]) (st' := [.ref b6, .int e12.1, .ref b17, .ref b17, .ref b2, .ref al]) [.aload_n 3] (by decide +kernel) rfl ?_
      refine zV_get (ci := 1) (idx := 148) (k := 1) (N := 3) (fs := [.int e12.1, .int e12.2.1, .int e12.2.2]) (v := .int e12.2.1) (Or.inl hk14) rfl z_in1 (by decide) (zT_mem 441 (by decide +kernel) rfl) rfl (by decide +kernel) ?_
      refine zV_blk (pc' := 50) (lo' := [(3, .ref b6), (4, .ref b6), (2, .ref b2), (0, .ref al), (1, .int x1)]) (st' := [.int 0, .int e12.2.1, .int e12.1, .ref b17, .ref b17, .ref b2, .ref al]) [.iconst 0] (by decide +kernel) rfl ?_
      obtain ⟨v18, hv18, h⟩ := zbind h
      refine zV_mk (idx := 185) (As := [.int e12.1, .int e12.2.1, .int 0]) (rest := [.ref b17, .ref b2, .ref al]) (e := .inr (1, [.int v18.1, .int v18.2.1, .int v18.2.2])) (fun Q2 hQ2 => ck_newEven s0 D cB cI cJ cD e12.1 e12.2.1 0 b17  v18 hv18  (by simp [va_up]) hQ2) oX1_init rfl (zT_mem 741 (by decide +kernel) rfl) (zT_mem 434 (by decide +kernel) rfl) rfl rfl (Nat.le_of_ble_eq_true rfl) ⟨by decide, by decide⟩ (by decide +kernel) hn16 (fun hi2 hX hc19 => ?_)
      replace hk14 := hX _ _ hk14
      replace hc8 := hX _ _ hc8
      replace hc9 := hc9.mono hX
      replace hc10 := hc10.mono hX
      replace hc11 := hc11.mono hX
      replace hW := hW.mono hX
      replace hXX := hXX.tr hX; clear hX
      have ho20 : iEven hi2 b17 v18 := hc19
      obtain ⟨v21, hv21, h⟩ := zbind h
      refine zV_alV (mc := 0) (ms := 0) (fun hi' v' => ∃ a' : Nat, v' = some (.ref a') ∧ iDes cI hi' a' v21) (idx := 188) (rest := [.ref al]) (fs := [.ref b5, .ref b6, .ref b7]) (ci := 0) (fun Q2 hQ2 => ck_withLaw s0 D cB cI cJ cD z3 (.inr (.inl v18)) b2 b17 v21 hv21 ⟨b5, b6, b7, hc8, hc9, hc10, hc11⟩ ho20 (fun a' hi' nx' hX hr => hQ2 _ _ _ hX ⟨a', rfl, hr⟩)) oX0_withLaw (Or.inl hc8) rfl (zT_mem 742 (by decide +kernel) rfl) (zT_mem 743 (by decide +kernel) rfl) (zT_mem 744 (by decide +kernel) rfl) rfl rfl (Nat.le_of_ble_eq_true rfl) ⟨by decide, by decide⟩ (by decide +kernel) ?_
      rintro _ hi2 nx24 hX ⟨b22, rfl, ho23⟩
      replace hk14 := hX _ _ hk14
      replace hc8 := hX _ _ hc8
      replace hc9 := hc9.mono hX
      replace hc10 := hc10.mono hX
      replace hc11 := hc11.mono hX
      replace hW := hW.mono hX
      replace hXX := hXX.tr hX; clear hX
      refine zV_eq (st2 := [.ref b22, .ref al]) rfl rfl rfl rfl ?_
      refine zV_blk (pc' := 57) (lo' := [(3, .ref b6), (4, .ref b6), (2, .ref b2), (0, .ref al), (1, .int x1)]) (st' := [.ref b6, .ref b22, .ref al]) [.aload_n 3] (by decide +kernel) rfl ?_
      refine zV_get (ci := 1) (idx := 145) (k := 0) (N := 3) (fs := [.int e12.1, .int e12.2.1, .int e12.2.2]) (v := .int e12.1) (Or.inl hk14) rfl z_in1 (by decide) (zT_mem 439 (by decide +kernel) rfl) rfl (by decide +kernel) ?_
      refine zV_blk (pc' := 61) (lo' := [(3, .ref b6), (4, .ref b6), (2, .ref b2), (0, .ref al), (1, .int x1)]) (st' := [.ref b6, .int e12.1, .ref b22, .ref al]) [.aload_n 3] (by decide +kernel) rfl ?_
      refine zV_get (ci := 1) (idx := 148) (k := 1) (N := 3) (fs := [.int e12.1, .int e12.2.1, .int e12.2.2]) (v := .int e12.2.1) (Or.inl hk14) rfl z_in1 (by decide) (zT_mem 441 (by decide +kernel) rfl) rfl (by decide +kernel) ?_
      obtain ⟨v25, hv25, h⟩ := zbind h
      refine l_call (mc := 0) (ms := 0) (idx := 268) (As := [.ref b22, .int e12.1, .int e12.2.1]) (rest := []) hW (fun Q2 hQ2 => cw_keepingShiftS s0 D X cB cI cJ cD al l1 l2 l3 l4 l5 A tp dv cs cv jv bo hg lw sb n v21 e12.1 e12.2.1 b22 v25 hv25 hW ho23 hb_hg hb_lw hQ2) oX11_keepingShift rfl (zT_mem 1166 (by decide +kernel) rfl) (zT_mem 1168 (by decide +kernel) rfl) (zT_mem 13 (by decide +kernel) rfl) rfl rfl (Nat.le_of_ble_eq_true rfl) ⟨by decide, by decide⟩ (by decide +kernel) ?_
      intro hi2 hm2 nx26 hX hW2 hFr2
      replace hk14 := hX _ _ hk14
      replace hc8 := hX _ _ hc8
      replace hc9 := hc9.mono hX
      replace hc10 := hc10.mono hX
      replace hc11 := hc11.mono hX
      clear hW; have hW := hW2; clear hW2
      replace hXX := hXX.tr hX; clear hX
      replace hFr := hFr.tr hFr2; clear hFr2
      refine zV_eq (st2 := [.int v25.1]) rfl rfl rfl rfl ?_
      obtain rfl := Option.some.inj h
      exact zV_iret rfl (by decide +kernel) (hQ _ rfl _ _ _ hXX hW hFr)
    · rw [hg13] at hk14; replace h := zEv_l hg13 h
      obtain ⟨_, hk9, _⟩ := id hk14
      refine zV_instNo (ci := 5) (idx := 143) (nm := "LeapDesigner$EvenLaw") (Or.inl hk9) rfl (zT_mem 655 (by decide +kernel) rfl) (by decide +kernel) (by decide +kernel) ?_
      refine zV_if_eq (tgt := 33) (off := 12) (by decide +kernel) (by decide) (fun _ => ?_) (fun q => absurd q (by decide +kernel))
      refine zV_less (mc' := 0) (ms' := 0) (by decide) (by decide) ?_
      refine zV_blk (pc' := 34) (lo' := [(4, .ref b6), (2, .ref b2), (0, .ref al), (1, .int x1)]) (st' := [.int (-1)]) [.iconst (-1)] (by decide +kernel) rfl ?_
      obtain rfl := Option.some.inj h
      exact zV_iret rfl (by decide +kernel) (hQ _ rfl _ _ _ hXX hW hFr)
    · rw [hg13] at hk14; replace h := zEv_w hg13 h
      obtain ⟨_, hk9, _⟩ := id hk14
      refine zV_instNo (ci := 8) (idx := 143) (nm := "LeapDesigner$EvenLaw") (Or.inl hk9) rfl (zT_mem 655 (by decide +kernel) rfl) (by decide +kernel) (by decide +kernel) ?_
      refine zV_if_eq (tgt := 33) (off := 12) (by decide +kernel) (by decide) (fun _ => ?_) (fun q => absurd q (by decide +kernel))
      refine zV_less (mc' := 0) (ms' := 0) (by decide) (by decide) ?_
      refine zV_blk (pc' := 34) (lo' := [(4, .ref b6), (2, .ref b2), (0, .ref al), (1, .int x1)]) (st' := [.int (-1)]) [.iconst (-1)] (by decide +kernel) rfl ?_
      obtain rfl := Option.some.inj h
      exact zV_iret rfl (by decide +kernel) (hQ _ rfl _ _ _ hXX hW hFr)
