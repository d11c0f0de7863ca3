def misLeap_135 (n : Nat) (w : Nat → Int32) (x4 : Int32) : Option (Bool) := (if ((x4 - x4 / 2 * 2) : Int32) = (1 : Int32) then some true else some false)
set_option maxHeartbeats 4000000 in
set_option maxRecDepth 100000 in
theorem cmisLeap_135 (s0 : State) (D : va_G) (cB cI cJ cD : ClassId) (am a1 a2 a3 : Nat) (F : Nat → Int32) (G : Nat → Int64) (tp w oc : Nat → Int32) (n : Nat) (x4 : Int32) {hi hm : zHp} {nx : Nat} {Q : Option Value → zHp → zHp → Nat → Prop} {x : Bool} (hW : mW cB cI am a1 a2 a3 F G tp w oc hm) (h : misLeap_135 n w x4 = some x) (hQ : ∀ r : Bool, x = r → Q (some (.int (zb r))) hi hm nx) : zV s0 D (zty cB cI cJ cD) yX12_isLeap cX12_isLeap 5 (some .boolean) 2 48 0 0 135 [(4, .int x4)] [] hi hm nx Q := by
  unfold misLeap_135 at h
  refine zV_blk (pc' := 138) (lo' := [(4, .int x4)]) (st' := [.int 2, .int x4]) [.iload 4, .iconst 2] (by decide +kernel) rfl ?_
  refine zV_irem (by decide +kernel) (by decide +kernel) ?_
  refine zV_blk (pc' := 140) (lo' := [(4, .int x4)]) (st' := [.int 1, .int (x4 - x4 / 2 * 2)]) [.iconst 1] (by decide +kernel) rfl ?_
  refine zV_icmp_ne (tgt := 147) (off := 7) (by decide +kernel) (by decide) (fun q => ?_) (fun q => ?_)
  · replace h := zif_neg q h
    clear q
    refine zV_blk (pc' := 148) (lo' := [(4, .int x4)]) (st' := [.int 0]) [.iconst 0] (by decide +kernel) rfl ?_
    obtain rfl := Option.some.inj h
    refine zV_eq (st2 := [.int (zb false)]) rfl rfl rfl rfl ?_
    exact zV_bret rfl (by decide +kernel) (hQ _ rfl)
  · replace h := zif_pos q h
    clear q
    refine zV_blk (pc' := 144) (lo' := [(4, .int x4)]) (st' := [.int 1]) [.iconst 1] (by decide +kernel) rfl ?_
    refine zV_goto (tgt := 148) (off := 4) (by decide +kernel) (by decide) ?_
    obtain rfl := Option.some.inj h
    refine zV_eq (st2 := [.int (zb true)]) rfl rfl rfl rfl ?_
    exact zV_bret rfl (by decide +kernel) (hQ _ rfl)
def misLeap_95 (n : Nat) (w : Nat → Int32) (x1 : Int32) (x2 : Int64) (s : Int32) : Option ((Int32) ⊕ (Bool)) := zck (zin ((x1 + 17)) 35802) ((if ((w ((x1 + 17) : Int32).toNatClampNeg) : Int32) ≤ (s : Int32) then ((misLeap_135 n w s).map (fun z => .inr z)) else zck (zin (((x1 + 18) + s)) 35802) (zck (decide (¬ (((w (((x1 + 18) + s) : Int32).toNatClampNeg) : Int32).toInt64 : Int64) = 0)) ((if ((x2 - x2 / ((w (((x1 + 18) + s) : Int32).toNatClampNeg) : Int32).toInt64 * ((w (((x1 + 18) + s) : Int32).toNatClampNeg) : Int32).toInt64) : Int64) = (0 : Int64) then some (.inl (s + 1)) else ((misLeap_135 n w s).map (fun z => .inr z)))))))
set_option maxHeartbeats 4000000 in
set_option maxRecDepth 100000 in
theorem cmisLeap_95 (s0 : State) (D : va_G) (cB cI cJ cD : ClassId) (am a1 a2 a3 : Nat) (F : Nat → Int32) (G : Nat → Int64) (tp : Nat → Int32) (w : Nat → Int32) (oc : Nat → Int32) (n : Nat) (x1 : Int32) (x2 : Int64) (s : Int32) (x : (Int32) ⊕ (Bool)) {hi hm : zHp} {nx : Nat} {Q : Option Value → zHp → zHp → Nat → Prop} (hW : mW cB cI am a1 a2 a3 F G tp w oc hm) (h : misLeap_95 n w x1 x2 s = some x) (hL95 : ∀ s : Int32, x = (.inl s) → zV s0 D (zty cB cI cJ cD) yX12_isLeap cX12_isLeap 5 (some .boolean) 2 48 0 0 95 [(0, .ref am), (1, .int x1), (2, .long x2), (4, .int s)] [] hi hm nx Q) (hQ : ∀ r : Bool, x = (.inr r) → Q (some (.int (zb r))) hi hm nx) : zV s0 D (zty cB cI cJ cD) yX12_isLeap cX12_isLeap 5 (some .boolean) 2 48 0 0 95 [(0, .ref am), (1, .int x1), (2, .long x2), (4, .int s)] [] hi hm nx Q := by
  unfold misLeap_95 at h
  refine zV_blk (pc' := 98) (lo' := [(0, .ref am), (1, .int x1), (2, .long x2), (4, .int s)]) (st' := [.ref am, .int s]) [.iload 4, .aload_n 0] (by decide +kernel) rfl ?_
  refine m_get (idx := 18) (k := 12) (v := .ref a2) hW m_in12 (by decide) (zT_mem 1452 (by decide +kernel) rfl) rfl (by decide +kernel) ?_
  refine zV_blk (pc' := 105) (lo' := [(0, .ref am), (1, .int x1), (2, .long x2), (4, .int s)]) (st' := [.int (x1 + 17), .ref a2, .int s]) [.iload_n 1, .bipush 17, .iadd] (by decide +kernel) rfl ?_
  obtain ⟨hz, h⟩ := zck_some h
  refine m_wld hW hz (by decide +kernel) ?_
  refine zV_icmp_ge (tgt := 135) (off := 29) (by decide +kernel) (by decide) (fun q => ?_) (fun q => ?_)
  · replace h := zif_pos q h
    clear q
    obtain ⟨z1, h9, hx⟩ := zmap h
    clear h; subst hx; have h := h9; clear h9
    refine zV_pick (lo2 := [(4, .int s)]) [3] rfl ?_
    exact cmisLeap_135 s0 D cB cI cJ cD am a1 a2 a3 F G tp w oc n s hW h (fun r hr => hQ r (by rw [hr]))
  · replace h := zif_neg q h
    clear q
    refine zV_blk (pc' := 111) (lo' := [(0, .ref am), (1, .int x1), (2, .long x2), (4, .int s)]) (st' := [.ref am, .long x2]) [.lload_n 2, .aload_n 0] (by decide +kernel) rfl ?_
    refine m_get (idx := 18) (k := 12) (v := .ref a2) hW m_in12 (by decide) (zT_mem 1452 (by decide +kernel) rfl) rfl (by decide +kernel) ?_
    refine zV_blk (pc' := 121) (lo' := [(0, .ref am), (1, .int x1), (2, .long x2), (4, .int s)]) (st' := [.int ((x1 + 18) + s), .ref a2, .long x2]) [.iload_n 1, .bipush 18, .iadd, .iload 4, .iadd] (by decide +kernel) rfl ?_
    obtain ⟨hz, h⟩ := zck_some h
    refine m_wld hW hz (by decide +kernel) ?_
    refine zV_blk (pc' := 123) (lo' := [(0, .ref am), (1, .int x1), (2, .long x2), (4, .int s)]) (st' := [.long ((w (((x1 + 18) + s) : Int32).toNatClampNeg) : Int32).toInt64, .long x2]) [.i2l] (by decide +kernel) rfl ?_
    obtain ⟨hz, h⟩ := zck_some h
    refine zV_lrem (by decide +kernel) (of_decide_eq_true hz) ?_
    refine zV_blk (pc' := 126) (lo' := [(0, .ref am), (1, .int x1), (2, .long x2), (4, .int s)]) (st' := [.int (lg_cmp (x2 - x2 / ((w (((x1 + 18) + s) : Int32).toNatClampNeg) : Int32).toInt64 * ((w (((x1 + 18) + s) : Int32).toNatClampNeg) : Int32).toInt64) 0)]) [.lconst 0, .lcmp] (by decide +kernel) rfl ?_
    refine zV_lcmp_ne (tgt := 135) (off := 9) (by decide +kernel) (by decide) (fun q => ?_) (fun q => ?_)
    · replace h := zif_neg q h
      clear q
      obtain ⟨z2, h9, hx⟩ := zmap h
      clear h; subst hx; have h := h9; clear h9
      refine zV_pick (lo2 := [(4, .int s)]) [3] rfl ?_
      exact cmisLeap_135 s0 D cB cI cJ cD am a1 a2 a3 F G tp w oc n s hW h (fun r hr => hQ r (by rw [hr]))
    · replace h := zif_pos q h
      clear q
      refine zV_blk (pc' := 132) (lo' := [(4, .int (s + 1)), (0, .ref am), (1, .int x1), (2, .long x2)]) (st' := []) [.iinc 4 1] (by decide +kernel) rfl ?_
      refine zV_goto (tgt := 95) (off := -37) (by decide +kernel) (by decide) ?_
      obtain rfl := Option.some.inj h
      refine zV_pick (lo2 := [(0, .ref am), (1, .int x1), (2, .long x2), (4, .int (s + 1))]) [1, 2, 3, 0] rfl ?_
      exact hL95 _ rfl
theorem cmisLeap_95L (s0 : State) (D : va_G) (cB cI cJ cD : ClassId) (am a1 a2 a3 : Nat) (F : Nat → Int32) (G : Nat → Int64) (tp : Nat → Int32) (w : Nat → Int32) (oc : Nat → Int32) (n : Nat) (x1 : Int32) (x2 : Int64) : ∀ (k : Nat) (s : Int32) {hi hm : zHp} {nx : Nat} {Q : Option Value → zHp → zHp → Nat → Prop} (_ : mW cB cI am a1 a2 a3 F G tp w oc hm) {x : Bool} (_ : zloop (misLeap_95 n w x1 x2) k s = some x) (hQ : ∀ r : Bool, x = r → Q (some (.int (zb r))) hi hm nx), zV s0 D (zty cB cI cJ cD) yX12_isLeap cX12_isLeap 5 (some .boolean) 2 48 0 0 95 [(0, .ref am), (1, .int x1), (2, .long x2), (4, .int s)] [] hi hm nx Q
  | 0, s, _, _, _, _, hW, _, h, _ => by cases h
  | k + 1, s, hi, hm, nx, Q, hW, x, h, hQ => by
    obtain ⟨z, hz, h1, h2⟩ := zloop_succ h
    exact cmisLeap_95 s0 D cB cI cJ cD am a1 a2 a3 F G tp w oc n x1 x2 s z hW hz (fun s' hs => cmisLeap_95L s0 D cB cI cJ cD am a1 a2 a3 F G tp w oc n x1 x2 k s' hW (h1 s' hs) hQ) (fun r hr => hQ r (h2 _ hr).symm)
def misLeap (n : Nat) (w : Nat → Int32) (x1 : Int32) (x2 : Int64) : Option (Bool) := zck (zin ((x1 + 3)) 35802) ((if ((w ((x1 + 3) : Int32).toNatClampNeg) : Int32) = 1 then zck (zin ((x1 + 9)) 35802) (zck (zin ((x1 + 11)) 35802) (zck (zin ((x1 + 10)) 35802) ((mrest ((((w ((x1 + 9) : Int32).toNatClampNeg) : Int32).toInt64 * x2) + ((w ((x1 + 11) : Int32).toNatClampNeg) : Int32).toInt64) ((w ((x1 + 10) : Int32).toNatClampNeg) : Int32).toInt64).bind (fun v2 => zck (zin ((x1 + 9)) 35802) ((if (((w ((x1 + 9) : Int32).toNatClampNeg) : Int32).toInt64 : Int64) ≤ (v2 : Int64) then some false else some true)))))) else (if ((w ((x1 + 3) : Int32).toNatClampNeg) : Int32) = 2 then (zloop (misLeap_95 n w x1 x2) n 0) else (if ((w ((x1 + 3) : Int32).toNatClampNeg) : Int32) = 3 then zck (zin ((x1 + 8)) 35802) ((mrest x2 ((w ((x1 + 8) : Int32).toNatClampNeg) : Int32).toInt64).bind (fun v5 => zck (zin ((((x1 + 40) + (v5 : Int64).toInt32) + 1)) 35802) (zck (zin (((x1 + 40) + (v5 : Int64).toInt32)) 35802) ((if ((w ((((x1 + 40) + (v5 : Int64).toInt32) + 1) : Int32).toNatClampNeg) : Int32) ≤ ((w (((x1 + 40) + (v5 : Int64).toInt32) : Int32).toNatClampNeg) : Int32) then some false else some true))))) else some false))))
theorem oX12_isLeap : zO yX12_isLeap cX12_isLeap 5 (some .boolean) 2 := ⟨zT_mem 1808 (by decide +kernel) rfl, zT_mem 94 (by decide +kernel) rfl, by decide +kernel, by decide +kernel, by decide +kernel⟩
set_option maxHeartbeats 4000000 in
set_option maxRecDepth 100000 in
theorem cmisLeap (s0 : State) (D : va_G) (cB cI cJ cD : ClassId) (am a1 a2 a3 : Nat) (F : Nat → Int32) (G : Nat → Int64) (tp w oc : Nat → Int32) (n : Nat) (x1 : Int32) (x2 : Int64) (x : Bool) (h : misLeap n w x1 x2 = some x) : mR s0 D cB cI cJ cD am a1 a2 a3 yX12_isLeap cX12_isLeap 5 (some .boolean) 2 48 [.int x1, .long x2] F G tp w oc (some (.int (zb x))) := by
  intro hi hm nx Q hW hQ0
  have hQ : ∀ r : Bool, x = r → Q (some (.int (zb r))) hi hm nx := fun r hr => by subst hr; exact hQ0
  refine zM_of (by decide +kernel) (Nat.le_of_ble_eq_true rfl) ?_
  unfold misLeap at h
  refine zV_eq (lo2 := [(0, .ref am), (1, .int x1), (2, .long x2)]) rfl rfl rfl rfl ?_
  refine zV_blk (pc' := 1) (lo' := [(0, .ref am), (1, .int x1), (2, .long x2)]) (st' := [.ref am]) [.aload_n 0] (by decide +kernel) rfl ?_
  refine m_get (idx := 18) (k := 12) (v := .ref a2) hW m_in12 (by decide) (zT_mem 1452 (by decide +kernel) rfl) rfl (by decide +kernel) ?_
  refine zV_blk (pc' := 7) (lo' := [(0, .ref am), (1, .int x1), (2, .long x2)]) (st' := [.int (x1 + 3), .ref a2]) [.iload_n 1, .iconst 3, .iadd] (by decide +kernel) rfl ?_
  obtain ⟨hz, h⟩ := zck_some h
  refine m_wld hW hz (by decide +kernel) ?_
  by_cases q1 : ((w ((x1 + 3) : Int32).toNatClampNeg) : Int32) = 1
  · replace h := zif_pos q1 h
    refine zV_tin (tgt := 36) (off := 28) (dflt := 193) (l1 := 1) (h1 := 3) (offs := #[28, 84, 141]) (len := 28) 1 q1 (by decide +kernel) (by decide +kernel) (by decide +kernel) (by decide +kernel) (by decide) ?_
    refine zV_blk (pc' := 37) (lo' := [(0, .ref am), (1, .int x1), (2, .long x2)]) (st' := [.ref am]) [.aload_n 0] (by decide +kernel) rfl ?_
    refine m_get (idx := 18) (k := 12) (v := .ref a2) hW m_in12 (by decide) (zT_mem 1452 (by decide +kernel) rfl) rfl (by decide +kernel) ?_
    refine zV_blk (pc' := 44) (lo' := [(0, .ref am), (1, .int x1), (2, .long x2)]) (st' := [.int (x1 + 9), .ref a2]) [.iload_n 1, .bipush 9, .iadd] (by decide +kernel) rfl ?_
    obtain ⟨hz, h⟩ := zck_some h
    refine m_wld hW hz (by decide +kernel) ?_
    refine zV_blk (pc' := 49) (lo' := [(0, .ref am), (1, .int x1), (2, .long x2)]) (st' := [.ref am, .long (((w ((x1 + 9) : Int32).toNatClampNeg) : Int32).toInt64 * x2)]) [.i2l, .lload_n 2, .lmul, .aload_n 0] (by decide +kernel) rfl ?_
    refine m_get (idx := 18) (k := 12) (v := .ref a2) hW m_in12 (by decide) (zT_mem 1452 (by decide +kernel) rfl) rfl (by decide +kernel) ?_
    refine zV_blk (pc' := 56) (lo' := [(0, .ref am), (1, .int x1), (2, .long x2)]) (st' := [.int (x1 + 11), .ref a2, .long (((w ((x1 + 9) : Int32).toNatClampNeg) : Int32).toInt64 * x2)]) [.iload_n 1, .bipush 11, .iadd] (by decide +kernel) rfl ?_
    obtain ⟨hz, h⟩ := zck_some h
    refine m_wld hW hz (by decide +kernel) ?_
    refine zV_blk (pc' := 60) (lo' := [(0, .ref am), (1, .int x1), (2, .long x2)]) (st' := [.ref am, .long ((((w ((x1 + 9) : Int32).toNatClampNeg) : Int32).toInt64 * x2) + ((w ((x1 + 11) : Int32).toNatClampNeg) : Int32).toInt64)]) [.i2l, .ladd, .aload_n 0] (by decide +kernel) rfl ?_
    refine m_get (idx := 18) (k := 12) (v := .ref a2) hW m_in12 (by decide) (zT_mem 1452 (by decide +kernel) rfl) rfl (by decide +kernel) ?_
    refine zV_blk (pc' := 67) (lo' := [(0, .ref am), (1, .int x1), (2, .long x2)]) (st' := [.int (x1 + 10), .ref a2, .long ((((w ((x1 + 9) : Int32).toNatClampNeg) : Int32).toInt64 * x2) + ((w ((x1 + 11) : Int32).toNatClampNeg) : Int32).toInt64)]) [.iload_n 1, .bipush 10, .iadd] (by decide +kernel) rfl ?_
    obtain ⟨hz, h⟩ := zck_some h
    refine m_wld hW hz (by decide +kernel) ?_
    refine zV_blk (pc' := 69) (lo' := [(0, .ref am), (1, .int x1), (2, .long x2)]) (st' := [.long ((w ((x1 + 10) : Int32).toNatClampNeg) : Int32).toInt64, .long ((((w ((x1 + 9) : Int32).toNatClampNeg) : Int32).toInt64 * x2) + ((w ((x1 + 11) : Int32).toNatClampNeg) : Int32).toInt64)]) [.i2l] (by decide +kernel) rfl ?_
    obtain ⟨v2, hv2, h⟩ := zbind h
    refine zV_sC (idx := 229) (rest := []) (cmrest s0 D cB cI cJ cD ((((w ((x1 + 9) : Int32).toNatClampNeg) : Int32).toInt64 * x2) + ((w ((x1 + 11) : Int32).toNatClampNeg) : Int32).toInt64) ((w ((x1 + 10) : Int32).toNatClampNeg) : Int32).toInt64 v2 hv2) oX12_rest (zT_mem 1701 (by decide +kernel) rfl) (zT_mem 1702 (by decide +kernel) rfl) rfl rfl (Nat.le_of_ble_eq_true rfl) ⟨by decide, by decide⟩ (by decide +kernel) ?_
    refine zV_eq (st2 := [.long v2]) rfl rfl rfl rfl ?_
    refine zV_blk (pc' := 73) (lo' := [(0, .ref am), (1, .int x1), (2, .long x2)]) (st' := [.ref am, .long v2]) [.aload_n 0] (by decide +kernel) rfl ?_
    refine m_get (idx := 18) (k := 12) (v := .ref a2) hW m_in12 (by decide) (zT_mem 1452 (by decide +kernel) rfl) rfl (by decide +kernel) ?_
    refine zV_blk (pc' := 80) (lo' := [(0, .ref am), (1, .int x1), (2, .long x2)]) (st' := [.int (x1 + 9), .ref a2, .long v2]) [.iload_n 1, .bipush 9, .iadd] (by decide +kernel) rfl ?_
    obtain ⟨hz, h⟩ := zck_some h
    refine m_wld hW hz (by decide +kernel) ?_
    refine zV_blk (pc' := 83) (lo' := [(0, .ref am), (1, .int x1), (2, .long x2)]) (st' := [.int (lg_cmp v2 ((w ((x1 + 9) : Int32).toNatClampNeg) : Int32).toInt64)]) [.i2l, .lcmp] (by decide +kernel) rfl ?_
    refine zV_lcmp_ge (tgt := 90) (off := 7) (by decide +kernel) (by decide) (fun q => ?_) (fun q => ?_)
    · replace h := zif_pos q h
      clear q
      refine zV_blk (pc' := 91) (lo' := [(0, .ref am), (1, .int x1), (2, .long x2)]) (st' := [.int 0]) [.iconst 0] (by decide +kernel) rfl ?_
      obtain rfl := Option.some.inj h
      refine zV_eq (st2 := [.int (zb false)]) rfl rfl rfl rfl ?_
      exact zV_bret rfl (by decide +kernel) (hQ _ rfl)
    · replace h := zif_neg q h
      clear q
      refine zV_blk (pc' := 87) (lo' := [(0, .ref am), (1, .int x1), (2, .long x2)]) (st' := [.int 1]) [.iconst 1] (by decide +kernel) rfl ?_
      refine zV_goto (tgt := 91) (off := 4) (by decide +kernel) (by decide) ?_
      obtain rfl := Option.some.inj h
      refine zV_eq (st2 := [.int (zb true)]) rfl rfl rfl rfl ?_
      exact zV_bret rfl (by decide +kernel) (hQ _ rfl)
  · replace h := zif_neg q1 h
    by_cases q3 : ((w ((x1 + 3) : Int32).toNatClampNeg) : Int32) = 2
    · replace h := zif_pos q3 h
      refine zV_tin (tgt := 92) (off := 84) (dflt := 193) (l1 := 1) (h1 := 3) (offs := #[28, 84, 141]) (len := 28) 2 q3 (by decide +kernel) (by decide +kernel) (by decide +kernel) (by decide +kernel) (by decide) ?_
      refine zV_blk (pc' := 95) (lo' := [(4, .int 0), (0, .ref am), (1, .int x1), (2, .long x2)]) (st' := []) [.iconst 0, .istore 4] (by decide +kernel) rfl ?_
      refine zV_pick (lo2 := [(0, .ref am), (1, .int x1), (2, .long x2), (4, .int 0)]) [1, 2, 3, 0] rfl ?_
      exact cmisLeap_95L s0 D cB cI cJ cD am a1 a2 a3 F G tp w oc n x1 x2 n 0 hW h hQ
    · replace h := zif_neg q3 h
      by_cases q4 : ((w ((x1 + 3) : Int32).toNatClampNeg) : Int32) = 3
      · replace h := zif_pos q4 h
        refine zV_tin (tgt := 149) (off := 141) (dflt := 193) (l1 := 1) (h1 := 3) (offs := #[28, 84, 141]) (len := 28) 3 q4 (by decide +kernel) (by decide +kernel) (by decide +kernel) (by decide +kernel) (by decide) ?_
        refine zV_blk (pc' := 151) (lo' := [(0, .ref am), (1, .int x1), (2, .long x2)]) (st' := [.ref am, .long x2]) [.lload_n 2, .aload_n 0] (by decide +kernel) rfl ?_
        refine m_get (idx := 18) (k := 12) (v := .ref a2) hW m_in12 (by decide) (zT_mem 1452 (by decide +kernel) rfl) rfl (by decide +kernel) ?_
        refine zV_blk (pc' := 158) (lo' := [(0, .ref am), (1, .int x1), (2, .long x2)]) (st' := [.int (x1 + 8), .ref a2, .long x2]) [.iload_n 1, .bipush 8, .iadd] (by decide +kernel) rfl ?_
        obtain ⟨hz, h⟩ := zck_some h
        refine m_wld hW hz (by decide +kernel) ?_
        refine zV_blk (pc' := 160) (lo' := [(0, .ref am), (1, .int x1), (2, .long x2)]) (st' := [.long ((w ((x1 + 8) : Int32).toNatClampNeg) : Int32).toInt64, .long x2]) [.i2l] (by decide +kernel) rfl ?_
        obtain ⟨v5, hv5, h⟩ := zbind h
        refine zV_sC (idx := 229) (rest := []) (cmrest s0 D cB cI cJ cD x2 ((w ((x1 + 8) : Int32).toNatClampNeg) : Int32).toInt64 v5 hv5) oX12_rest (zT_mem 1701 (by decide +kernel) rfl) (zT_mem 1702 (by decide +kernel) rfl) rfl rfl (Nat.le_of_ble_eq_true rfl) ⟨by decide, by decide⟩ (by decide +kernel) ?_
        refine zV_eq (st2 := [.long v5]) rfl rfl rfl rfl ?_
        refine zV_blk (pc' := 167) (lo' := [(4, .int (v5 : Int64).toInt32), (0, .ref am), (1, .int x1), (2, .long x2)]) (st' := [.ref am]) [.l2i, .istore 4, .aload_n 0] (by decide +kernel) rfl ?_
        refine m_get (idx := 18) (k := 12) (v := .ref a2) hW m_in12 (by decide) (zT_mem 1452 (by decide +kernel) rfl) rfl (by decide +kernel) ?_
        refine zV_blk (pc' := 179) (lo' := [(4, .int (v5 : Int64).toInt32), (0, .ref am), (1, .int x1), (2, .long x2)]) (st' := [.int (((x1 + 40) + (v5 : Int64).toInt32) + 1), .ref a2]) [.iload_n 1, .bipush 40, .iadd, .iload 4, .iadd, .iconst 1, .iadd] (by decide +kernel) rfl ?_
        obtain ⟨hz, h⟩ := zck_some h
        refine m_wld hW hz (by decide +kernel) ?_
        refine zV_blk (pc' := 181) (lo' := [(4, .int (v5 : Int64).toInt32), (0, .ref am), (1, .int x1), (2, .long x2)]) (st' := [.ref am, .int (w ((((x1 + 40) + (v5 : Int64).toInt32) + 1) : Int32).toNatClampNeg)]) [.aload_n 0] (by decide +kernel) rfl ?_
        refine m_get (idx := 18) (k := 12) (v := .ref a2) hW m_in12 (by decide) (zT_mem 1452 (by decide +kernel) rfl) rfl (by decide +kernel) ?_
        refine zV_blk (pc' := 191) (lo' := [(4, .int (v5 : Int64).toInt32), (0, .ref am), (1, .int x1), (2, .long x2)]) (st' := [.int ((x1 + 40) + (v5 : Int64).toInt32), .ref a2, .int (w ((((x1 + 40) + (v5 : Int64).toInt32) + 1) : Int32).toNatClampNeg)]) [.iload_n 1, .bipush 40, .iadd, .iload 4, .iadd] (by decide +kernel) rfl ?_
        obtain ⟨hz, h⟩ := zck_some h
        refine m_wld hW hz (by decide +kernel) ?_
        refine zV_icmp_le (tgt := 199) (off := 7) (by decide +kernel) (by decide) (fun q => ?_) (fun q => ?_)
        · replace h := zif_pos q h
          clear q
          refine zV_blk (pc' := 200) (lo' := [(4, .int (v5 : Int64).toInt32), (0, .ref am), (1, .int x1), (2, .long x2)]) (st' := [.int 0]) [.iconst 0] (by decide +kernel) rfl ?_
          obtain rfl := Option.some.inj h
          refine zV_eq (st2 := [.int (zb false)]) rfl rfl rfl rfl ?_
          exact zV_bret rfl (by decide +kernel) (hQ _ rfl)
        · replace h := zif_neg q h
          clear q
          refine zV_blk (pc' := 196) (lo' := [(4, .int (v5 : Int64).toInt32), (0, .ref am), (1, .int x1), (2, .long x2)]) (st' := [.int 1]) [.iconst 1] (by decide +kernel) rfl ?_
          refine zV_goto (tgt := 200) (off := 4) (by decide +kernel) (by decide) ?_
          obtain rfl := Option.some.inj h
          refine zV_eq (st2 := [.int (zb true)]) rfl rfl rfl rfl ?_
          exact zV_bret rfl (by decide +kernel) (hQ _ rfl)
      · replace h := zif_neg q4 h
        refine zV_tout (tgt := 201) (dflt := 193) (l1 := 1) (h1 := 3) (offs := #[28, 84, 141]) (len := 28) (by have nq1 := zne 1 1 (by decide +kernel) q1; have nq3 := zne 2 2 (by decide +kernel) q3; have nq4 := zne 3 3 (by decide +kernel) q4; omega) (by decide +kernel) (by decide) ?_
        refine zV_blk (pc' := 202) (lo' := [(0, .ref am), (1, .int x1), (2, .long x2)]) (st' := [.int 0]) [.iconst 0] (by decide +kernel) rfl ?_
        obtain rfl := Option.some.inj h
        refine zV_eq (st2 := [.int (zb false)]) rfl rfl rfl rfl ?_
        exact zV_bret rfl (by decide +kernel) (hQ _ rfl)

def mleapsTo_145 (n : Nat) (w : Nat → Int32) (x1 : Int32) (x2 : Int64) (x6 : Int32) (t0 : Int64) (t1 : Int64) : Option ((Int64 × Int32) ⊕ (Int64)) := zck (zin (((x1 + 18) + x6)) 35802) ((mfloor (x2 - 1) ((w (((x1 + 18) + x6) : Int32).toNatClampNeg) : Int32).toInt64).bind (fun v1 => some (.inl ((t0 + (t1 * (v1 + 1))), (x6 + 1)))))
set_option maxHeartbeats 4000000 in
set_option maxRecDepth 100000 in
theorem cmleapsTo_145 (s0 : State) (D : va_G) (cB cI cJ cD : ClassId) (am a1 a2 a3 : Nat) (F : Nat → Int32) (G : Nat → Int64) (tp w oc : Nat → Int32) (n : Nat) (x1 : Int32) (x2 : Int64) (x6 : Int32) (t0 : Int64) (t1 : Int64) {hi hm : zHp} {nx : Nat} {Q : Option Value → zHp → zHp → Nat → Prop} {x : (Int64 × Int32) ⊕ (Int64)} (hW : mW cB cI am a1 a2 a3 F G tp w oc hm) (h : mleapsTo_145 n w x1 x2 x6 t0 t1 = some x) (hL115 : ∀ s : Int64 × Int32, x = (.inl s) → zV s0 D (zty cB cI cJ cD) yX12_leapsTo cX12_leapsTo 7 (some .long) 2 48 0 0 115 [(0, .ref am), (1, .int x1), (2, .long x2), (4, .long s.1), (6, .int s.2)] [] hi hm nx Q) (hQ : ∀ r : Int64, x = (.inr r) → Q (some (.long r)) hi hm nx) : zV s0 D (zty cB cI cJ cD) yX12_leapsTo cX12_leapsTo 7 (some .long) 2 48 0 0 145 [(0, .ref am), (1, .int x1), (2, .long x2), (6, .int x6)] [.long t1, .long t0] hi hm nx Q := by
  unfold mleapsTo_145 at h
  refine zV_blk (pc' := 149) (lo' := [(0, .ref am), (1, .int x1), (2, .long x2), (6, .int x6)]) (st' := [.ref am, .long (x2 - 1), .long t1, .long t0]) [.lload_n 2, .lconst 1, .lsub, .aload_n 0] (by decide +kernel) rfl ?_
  refine m_get (idx := 18) (k := 12) (v := .ref a2) hW m_in12 (by decide) (zT_mem 1452 (by decide +kernel) rfl) rfl (by decide +kernel) ?_
  refine zV_blk (pc' := 159) (lo' := [(0, .ref am), (1, .int x1), (2, .long x2), (6, .int x6)]) (st' := [.int ((x1 + 18) + x6), .ref a2, .long (x2 - 1), .long t1, .long t0]) [.iload_n 1, .bipush 18, .iadd, .iload 6, .iadd] (by decide +kernel) rfl ?_
  obtain ⟨hz, h⟩ := zck_some h
  refine m_wld hW hz (by decide +kernel) ?_
  refine zV_blk (pc' := 161) (lo' := [(0, .ref am), (1, .int x1), (2, .long x2), (6, .int x6)]) (st' := [.long ((w (((x1 + 18) + x6) : Int32).toNatClampNeg) : Int32).toInt64, .long (x2 - 1), .long t1, .long t0]) [.i2l] (by decide +kernel) rfl ?_
  obtain ⟨v1, hv1, h⟩ := zbind h
  refine zV_sC (idx := 28) (rest := [.long t1, .long t0]) (cmfloor s0 D cB cI cJ cD (x2 - 1) ((w (((x1 + 18) + x6) : Int32).toNatClampNeg) : Int32).toInt64 v1 hv1) oX12_floor (zT_mem 1698 (by decide +kernel) rfl) (zT_mem 1699 (by decide +kernel) rfl) rfl rfl (Nat.le_of_ble_eq_true rfl) ⟨by decide, by decide⟩ (by decide +kernel) ?_
  refine zV_eq (st2 := [.long v1, .long t1, .long t0]) rfl rfl rfl rfl ?_
  refine zV_blk (pc' := 173) (lo' := [(6, .int (x6 + 1)), (4, .long (t0 + (t1 * (v1 + 1)))), (0, .ref am), (1, .int x1), (2, .long x2)]) (st' := []) [.lconst 1, .ladd, .lmul, .ladd, .lstore 4, .iinc 6 1] (by decide +kernel) rfl ?_
  refine zV_goto (tgt := 115) (off := -58) (by decide +kernel) (by decide) ?_
  obtain rfl := Option.some.inj h
  refine zV_pick (lo2 := [(0, .ref am), (1, .int x1), (2, .long x2), (4, .long (t0 + (t1 * (v1 + 1)))), (6, .int (x6 + 1))]) [2, 3, 4, 1, 0] rfl ?_
  exact hL115 _ rfl
def mleapsTo_115 (n : Nat) (w : Nat → Int32) (x1 : Int32) (x2 : Int64) (s : Int64 × Int32) : Option ((Int64 × Int32) ⊕ (Int64)) := zck (zin ((x1 + 17)) 35802) ((if ((w ((x1 + 17) : Int32).toNatClampNeg) : Int32) ≤ (s.2 : Int32) then some (.inr s.1) else (if ((s.2 - s.2 / 2 * 2) : Int32) = (0 : Int32) then (mleapsTo_145 n w x1 x2 s.2 s.1 1) else (mleapsTo_145 n w x1 x2 s.2 s.1 (-1)))))
set_option maxHeartbeats 4000000 in
set_option maxRecDepth 100000 in
theorem cmleapsTo_115 (s0 : State) (D : va_G) (cB cI cJ cD : ClassId) (am a1 a2 a3 : Nat) (F : Nat → Int32) (G : Nat → Int64) (tp : Nat → Int32) (w : Nat → Int32) (oc : Nat → Int32) (n : Nat) (x1 : Int32) (x2 : Int64) (s : Int64 × Int32) (x : (Int64 × Int32) ⊕ (Int64)) {hi hm : zHp} {nx : Nat} {Q : Option Value → zHp → zHp → Nat → Prop} (hW : mW cB cI am a1 a2 a3 F G tp w oc hm) (h : mleapsTo_115 n w x1 x2 s = some x) (hL115 : ∀ s : Int64 × Int32, x = (.inl s) → zV s0 D (zty cB cI cJ cD) yX12_leapsTo cX12_leapsTo 7 (some .long) 2 48 0 0 115 [(0, .ref am), (1, .int x1), (2, .long x2), (4, .long s.1), (6, .int s.2)] [] hi hm nx Q) (hQ : ∀ r : Int64, x = (.inr r) → Q (some (.long r)) hi hm nx) : zV s0 D (zty cB cI cJ cD) yX12_leapsTo cX12_leapsTo 7 (some .long) 2 48 0 0 115 [(0, .ref am), (1, .int x1), (2, .long x2), (4, .long s.1), (6, .int s.2)] [] hi hm nx Q := by
  unfold mleapsTo_115 at h
  refine zV_blk (pc' := 118) (lo' := [(0, .ref am), (1, .int x1), (2, .long x2), (4, .long s.1), (6, .int s.2)]) (st' := [.ref am, .int s.2]) [.iload 6, .aload_n 0] (by decide +kernel) rfl ?_
  refine m_get (idx := 18) (k := 12) (v := .ref a2) hW m_in12 (by decide) (zT_mem 1452 (by decide +kernel) rfl) rfl (by decide +kernel) ?_
  refine zV_blk (pc' := 125) (lo' := [(0, .ref am), (1, .int x1), (2, .long x2), (4, .long s.1), (6, .int s.2)]) (st' := [.int (x1 + 17), .ref a2, .int s.2]) [.iload_n 1, .bipush 17, .iadd] (by decide +kernel) rfl ?_
  obtain ⟨hz, h⟩ := zck_some h
  refine m_wld hW hz (by decide +kernel) ?_
  refine zV_icmp_ge (tgt := 176) (off := 50) (by decide +kernel) (by decide) (fun q => ?_) (fun q => ?_)
  · replace h := zif_pos q h
    clear q
    refine zV_blk (pc' := 178) (lo' := [(0, .ref am), (1, .int x1), (2, .long x2), (4, .long s.1), (6, .int s.2)]) (st' := [.long s.1]) [.lload 4] (by decide +kernel) rfl ?_
    obtain rfl := Option.some.inj h
    exact zV_lret rfl (by decide +kernel) (hQ _ rfl)
  · replace h := zif_neg q h
    clear q
    refine zV_blk (pc' := 134) (lo' := [(0, .ref am), (1, .int x1), (2, .long x2), (4, .long s.1), (6, .int s.2)]) (st' := [.int 2, .int s.2, .long s.1]) [.lload 4, .iload 6, .iconst 2] (by decide +kernel) rfl ?_
    refine zV_irem (by decide +kernel) (by decide +kernel) ?_
    refine zV_if_ne (tgt := 142) (off := 7) (by decide +kernel) (by decide) (fun q => ?_) (fun q => ?_)
    · replace h := zif_neg q h
      clear q
      refine zV_ldc2 (idx := 98) (v := (-1)) (zT_mem 1572 (by decide +kernel) rfl) (by decide +kernel) ?_
      refine zV_pick (lo2 := [(0, .ref am), (1, .int x1), (2, .long x2), (6, .int s.2)]) [0, 1, 2, 4] rfl ?_
      exact cmleapsTo_145 s0 D cB cI cJ cD am a1 a2 a3 F G tp w oc n x1 x2 s.2 s.1 (-1) hW h hL115 hQ
    · replace h := zif_pos q h
      clear q
      refine zV_blk (pc' := 139) (lo' := [(0, .ref am), (1, .int x1), (2, .long x2), (4, .long s.1), (6, .int s.2)]) (st' := [.long 1, .long s.1]) [.lconst 1] (by decide +kernel) rfl ?_
      refine zV_goto (tgt := 145) (off := 6) (by decide +kernel) (by decide) ?_
      refine zV_pick (lo2 := [(0, .ref am), (1, .int x1), (2, .long x2), (6, .int s.2)]) [0, 1, 2, 4] rfl ?_
      exact cmleapsTo_145 s0 D cB cI cJ cD am a1 a2 a3 F G tp w oc n x1 x2 s.2 s.1 1 hW h hL115 hQ
theorem cmleapsTo_115L (s0 : State) (D : va_G) (cB cI cJ cD : ClassId) (am a1 a2 a3 : Nat) (F : Nat → Int32) (G : Nat → Int64) (tp : Nat → Int32) (w : Nat → Int32) (oc : Nat → Int32) (n : Nat) (x1 : Int32) (x2 : Int64) : ∀ (k : Nat) (s : Int64 × Int32) {hi hm : zHp} {nx : Nat} {Q : Option Value → zHp → zHp → Nat → Prop} (_ : mW cB cI am a1 a2 a3 F G tp w oc hm) {x : Int64} (_ : zloop (mleapsTo_115 n w x1 x2) k s = some x) (hQ : ∀ r : Int64, x = r → Q (some (.long r)) hi hm nx), zV s0 D (zty cB cI cJ cD) yX12_leapsTo cX12_leapsTo 7 (some .long) 2 48 0 0 115 [(0, .ref am), (1, .int x1), (2, .long x2), (4, .long s.1), (6, .int s.2)] [] hi hm nx Q
  | 0, s, _, _, _, _, hW, _, h, _ => by cases h
  | k + 1, s, hi, hm, nx, Q, hW, x, h, hQ => by
    obtain ⟨z, hz, h1, h2⟩ := zloop_succ h
    exact cmleapsTo_115 s0 D cB cI cJ cD am a1 a2 a3 F G tp w oc n x1 x2 s z hW hz (fun s' hs => cmleapsTo_115L s0 D cB cI cJ cD am a1 a2 a3 F G tp w oc n x1 x2 k s' hW (h1 s' hs) hQ) (fun r hr => hQ r (h2 _ hr).symm)
def mleapsTo (n : Nat) (w : Nat → Int32) (x1 : Int32) (x2 : Int64) : Option (Int64) := zck (zin ((x1 + 3)) 35802) ((if ((w ((x1 + 3) : Int32).toNatClampNeg) : Int32) = 1 then zck (zin ((x1 + 9)) 35802) (zck (zin ((x1 + 11)) 35802) (zck (zin ((x1 + 10)) 35802) ((mfloor ((((w ((x1 + 9) : Int32).toNatClampNeg) : Int32).toInt64 * (x2 - 1)) + ((w ((x1 + 11) : Int32).toNatClampNeg) : Int32).toInt64) ((w ((x1 + 10) : Int32).toNatClampNeg) : Int32).toInt64).bind (fun v2 => zck (zin ((x1 + 11)) 35802) (zck (zin ((x1 + 9)) 35802) (zck (zin ((x1 + 10)) 35802) ((mfloor (((w ((x1 + 11) : Int32).toNatClampNeg) - (w ((x1 + 9) : Int32).toNatClampNeg)) : Int32).toInt64 ((w ((x1 + 10) : Int32).toNatClampNeg) : Int32).toInt64).bind (fun v3 => some (v2 - v3))))))))) else (if ((w ((x1 + 3) : Int32).toNatClampNeg) : Int32) = 2 then (zloop (mleapsTo_115 n w x1 x2) n (0, 0)) else (if ((w ((x1 + 3) : Int32).toNatClampNeg) : Int32) = 3 then zck (zin ((x1 + 8)) 35802) ((mfloor x2 ((w ((x1 + 8) : Int32).toNatClampNeg) : Int32).toInt64).bind (fun v6 => zck (zin (((x1 + 40) + (w ((x1 + 8) : Int32).toNatClampNeg))) 35802) ((mrest x2 ((w ((x1 + 8) : Int32).toNatClampNeg) : Int32).toInt64).bind (fun v7 => zck (zin (((x1 + 40) + (v7 : Int64).toInt32)) 35802) (some ((v6 * ((w (((x1 + 40) + (w ((x1 + 8) : Int32).toNatClampNeg)) : Int32).toNatClampNeg) : Int32).toInt64) + ((w (((x1 + 40) + (v7 : Int64).toInt32) : Int32).toNatClampNeg) : Int32).toInt64)))))) else some 0))))
theorem oX12_leapsTo : zO yX12_leapsTo cX12_leapsTo 7 (some .long) 2 := ⟨zT_mem 1697 (by decide +kernel) rfl, zT_mem 94 (by decide +kernel) rfl, by decide +kernel, by decide +kernel, by decide +kernel⟩
set_option maxHeartbeats 4000000 in
set_option maxRecDepth 100000 in
theorem cmleapsTo (s0 : State) (D : va_G) (cB cI cJ cD : ClassId) (am a1 a2 a3 : Nat) (F : Nat → Int32) (G : Nat → Int64) (tp w oc : Nat → Int32) (n : Nat) (x1 : Int32) (x2 : Int64) (x : Int64) (h : mleapsTo n w x1 x2 = some x) : mR s0 D cB cI cJ cD am a1 a2 a3 yX12_leapsTo cX12_leapsTo 7 (some .long) 2 48 [.int x1, .long x2] F G tp w oc (some (.long x)) := by
  intro hi hm nx Q hW hQ0
  have hQ : ∀ r : Int64, x = r → Q (some (.long r)) hi hm nx := fun r hr => by subst hr; exact hQ0
  refine zM_of (by decide +kernel) (Nat.le_of_ble_eq_true rfl) ?_
  unfold mleapsTo at h
  refine zV_eq (lo2 := [(0, .ref am), (1, .int x1), (2, .long x2)]) rfl rfl rfl rfl ?_
  refine zV_blk (pc' := 1) (lo' := [(0, .ref am), (1, .int x1), (2, .long x2)]) (st' := [.ref am]) [.aload_n 0] (by decide +kernel) rfl ?_
  refine m_get (idx := 18) (k := 12) (v := .ref a2) hW m_in12 (by decide) (zT_mem 1452 (by decide +kernel) rfl) rfl (by decide +kernel) ?_
  refine zV_blk (pc' := 7) (lo' := [(0, .ref am), (1, .int x1), (2, .long x2)]) (st' := [.int (x1 + 3), .ref a2]) [.iload_n 1, .iconst 3, .iadd] (by decide +kernel) rfl ?_
  obtain ⟨hz, h⟩ := zck_some h
  refine m_wld hW hz (by decide +kernel) ?_
  by_cases q1 : ((w ((x1 + 3) : Int32).toNatClampNeg) : Int32) = 1
  · replace h := zif_pos q1 h
    refine zV_tin (tgt := 36) (off := 28) (dflt := 224) (l1 := 1) (h1 := 3) (offs := #[28, 101, 171]) (len := 28) 1 q1 (by decide +kernel) (by decide +kernel) (by decide +kernel) (by decide +kernel) (by decide) ?_
    refine zV_blk (pc' := 37) (lo' := [(0, .ref am), (1, .int x1), (2, .long x2)]) (st' := [.ref am]) [.aload_n 0] (by decide +kernel) rfl ?_
    refine m_get (idx := 18) (k := 12) (v := .ref a2) hW m_in12 (by decide) (zT_mem 1452 (by decide +kernel) rfl) rfl (by decide +kernel) ?_
    refine zV_blk (pc' := 44) (lo' := [(0, .ref am), (1, .int x1), (2, .long x2)]) (st' := [.int (x1 + 9), .ref a2]) [.iload_n 1, .bipush 9, .iadd] (by decide +kernel) rfl ?_
    obtain ⟨hz, h⟩ := zck_some h
    refine m_wld hW hz (by decide +kernel) ?_
    refine zV_blk (pc' := 51) (lo' := [(0, .ref am), (1, .int x1), (2, .long x2)]) (st' := [.ref am, .long (((w ((x1 + 9) : Int32).toNatClampNeg) : Int32).toInt64 * (x2 - 1))]) [.i2l, .lload_n 2, .lconst 1, .lsub, .lmul, .aload_n 0] (by decide +kernel) rfl ?_
    refine m_get (idx := 18) (k := 12) (v := .ref a2) hW m_in12 (by decide) (zT_mem 1452 (by decide +kernel) rfl) rfl (by decide +kernel) ?_
    refine zV_blk (pc' := 58) (lo' := [(0, .ref am), (1, .int x1), (2, .long x2)]) (st' := [.int (x1 + 11), .ref a2, .long (((w ((x1 + 9) : Int32).toNatClampNeg) : Int32).toInt64 * (x2 - 1))]) [.iload_n 1, .bipush 11, .iadd] (by decide +kernel) rfl ?_
    obtain ⟨hz, h⟩ := zck_some h
    refine m_wld hW hz (by decide +kernel) ?_
    refine zV_blk (pc' := 62) (lo' := [(0, .ref am), (1, .int x1), (2, .long x2)]) (st' := [.ref am, .long ((((w ((x1 + 9) : Int32).toNatClampNeg) : Int32).toInt64 * (x2 - 1)) + ((w ((x1 + 11) : Int32).toNatClampNeg) : Int32).toInt64)]) [.i2l, .ladd, .aload_n 0] (by decide +kernel) rfl ?_
    refine m_get (idx := 18) (k := 12) (v := .ref a2) hW m_in12 (by decide) (zT_mem 1452 (by decide +kernel) rfl) rfl (by decide +kernel) ?_
    refine zV_blk (pc' := 69) (lo' := [(0, .ref am), (1, .int x1), (2, .long x2)]) (st' := [.int (x1 + 10), .ref a2, .long ((((w ((x1 + 9) : Int32).toNatClampNeg) : Int32).toInt64 * (x2 - 1)) + ((w ((x1 + 11) : Int32).toNatClampNeg) : Int32).toInt64)]) [.iload_n 1, .bipush 10, .iadd] (by decide +kernel) rfl ?_
    obtain ⟨hz, h⟩ := zck_some h
    refine m_wld hW hz (by decide +kernel) ?_
    refine zV_blk (pc' := 71) (lo' := [(0, .ref am), (1, .int x1), (2, .long x2)]) (st' := [.long ((w ((x1 + 10) : Int32).toNatClampNeg) : Int32).toInt64, .long ((((w ((x1 + 9) : Int32).toNatClampNeg) : Int32).toInt64 * (x2 - 1)) + ((w ((x1 + 11) : Int32).toNatClampNeg) : Int32).toInt64)]) [.i2l] (by decide +kernel) rfl ?_
    obtain ⟨v2, hv2, h⟩ := zbind h
    refine zV_sC (idx := 28) (rest := []) (cmfloor s0 D cB cI cJ cD ((((w ((x1 + 9) : Int32).toNatClampNeg) : Int32).toInt64 * (x2 - 1)) + ((w ((x1 + 11) : Int32).toNatClampNeg) : Int32).toInt64) ((w ((x1 + 10) : Int32).toNatClampNeg) : Int32).toInt64 v2 hv2) oX12_floor (zT_mem 1698 (by decide +kernel) rfl) (zT_mem 1699 (by decide +kernel) rfl) rfl rfl (Nat.le_of_ble_eq_true rfl) ⟨by decide, by decide⟩ (by decide +kernel) ?_
    refine zV_eq (st2 := [.long v2]) rfl rfl rfl rfl ?_
    refine zV_blk (pc' := 75) (lo' := [(0, .ref am), (1, .int x1), (2, .long x2)]) (st' := [.ref am, .long v2]) [.aload_n 0] (by decide +kernel) rfl ?_
    refine m_get (idx := 18) (k := 12) (v := .ref a2) hW m_in12 (by decide) (zT_mem 1452 (by decide +kernel) rfl) rfl (by decide +kernel) ?_
    refine zV_blk (pc' := 82) (lo' := [(0, .ref am), (1, .int x1), (2, .long x2)]) (st' := [.int (x1 + 11), .ref a2, .long v2]) [.iload_n 1, .bipush 11, .iadd] (by decide +kernel) rfl ?_
    obtain ⟨hz, h⟩ := zck_some h
    refine m_wld hW hz (by decide +kernel) ?_
    refine zV_blk (pc' := 84) (lo' := [(0, .ref am), (1, .int x1), (2, .long x2)]) (st' := [.ref am, .int (w ((x1 + 11) : Int32).toNatClampNeg), .long v2]) [.aload_n 0] (by decide +kernel) rfl ?_
    refine m_get (idx := 18) (k := 12) (v := .ref a2) hW m_in12 (by decide) (zT_mem 1452 (by decide +kernel) rfl) rfl (by decide +kernel) ?_
    refine zV_blk (pc' := 91) (lo' := [(0, .ref am), (1, .int x1), (2, .long x2)]) (st' := [.int (x1 + 9), .ref a2, .int (w ((x1 + 11) : Int32).toNatClampNeg), .long v2]) [.iload_n 1, .bipush 9, .iadd] (by decide +kernel) rfl ?_
    obtain ⟨hz, h⟩ := zck_some h
    refine m_wld hW hz (by decide +kernel) ?_
    refine zV_blk (pc' := 95) (lo' := [(0, .ref am), (1, .int x1), (2, .long x2)]) (st' := [.ref am, .long (((w ((x1 + 11) : Int32).toNatClampNeg) - (w ((x1 + 9) : Int32).toNatClampNeg)) : Int32).toInt64, .long v2]) [.isub, .i2l, .aload_n 0] (by decide +kernel) rfl ?_
    refine m_get (idx := 18) (k := 12) (v := .ref a2) hW m_in12 (by decide) (zT_mem 1452 (by decide +kernel) rfl) rfl (by decide +kernel) ?_
    refine zV_blk (pc' := 102) (lo' := [(0, .ref am), (1, .int x1), (2, .long x2)]) (st' := [.int (x1 + 10), .ref a2, .long (((w ((x1 + 11) : Int32).toNatClampNeg) - (w ((x1 + 9) : Int32).toNatClampNeg)) : Int32).toInt64, .long v2]) [.iload_n 1, .bipush 10, .iadd] (by decide +kernel) rfl ?_
    obtain ⟨hz, h⟩ := zck_some h
    refine m_wld hW hz (by decide +kernel) ?_
    refine zV_blk (pc' := 104) (lo' := [(0, .ref am), (1, .int x1), (2, .long x2)]) (st' := [.long ((w ((x1 + 10) : Int32).toNatClampNeg) : Int32).toInt64, .long (((w ((x1 + 11) : Int32).toNatClampNeg) - (w ((x1 + 9) : Int32).toNatClampNeg)) : Int32).toInt64, .long v2]) [.i2l] (by decide +kernel) rfl ?_
    obtain ⟨v3, hv3, h⟩ := zbind h
    refine zV_sC (idx := 28) (rest := [.long v2]) (cmfloor s0 D cB cI cJ cD (((w ((x1 + 11) : Int32).toNatClampNeg) - (w ((x1 + 9) : Int32).toNatClampNeg)) : Int32).toInt64 ((w ((x1 + 10) : Int32).toNatClampNeg) : Int32).toInt64 v3 hv3) oX12_floor (zT_mem 1698 (by decide +kernel) rfl) (zT_mem 1699 (by decide +kernel) rfl) rfl rfl (Nat.le_of_ble_eq_true rfl) ⟨by decide, by decide⟩ (by decide +kernel) ?_
    refine zV_eq (st2 := [.long v3, .long v2]) rfl rfl rfl rfl ?_
    refine zV_blk (pc' := 108) (lo' := [(0, .ref am), (1, .int x1), (2, .long x2)]) (st' := [.long (v2 - v3)]) [.lsub] (by decide +kernel) rfl ?_
    obtain rfl := Option.some.inj h
    exact zV_lret rfl (by decide +kernel) (hQ _ rfl)
  · replace h := zif_neg q1 h
    by_cases q4 : ((w ((x1 + 3) : Int32).toNatClampNeg) : Int32) = 2
    · replace h := zif_pos q4 h
      refine zV_tin (tgt := 109) (off := 101) (dflt := 224) (l1 := 1) (h1 := 3) (offs := #[28, 101, 171]) (len := 28) 2 q4 (by decide +kernel) (by decide +kernel) (by decide +kernel) (by decide +kernel) (by decide) ?_
      refine zV_blk (pc' := 115) (lo' := [(6, .int 0), (4, .long 0), (0, .ref am), (1, .int x1), (2, .long x2)]) (st' := []) [.lconst 0, .lstore 4, .iconst 0, .istore 6] (by decide +kernel) rfl ?_
      refine zV_pick (lo2 := [(0, .ref am), (1, .int x1), (2, .long x2), (4, .long 0), (6, .int 0)]) [2, 3, 4, 1, 0] rfl ?_
      exact cmleapsTo_115L s0 D cB cI cJ cD am a1 a2 a3 F G tp w oc n x1 x2 n (0, 0) hW h hQ
    · replace h := zif_neg q4 h
      by_cases q5 : ((w ((x1 + 3) : Int32).toNatClampNeg) : Int32) = 3
      · replace h := zif_pos q5 h
        refine zV_tin (tgt := 179) (off := 171) (dflt := 224) (l1 := 1) (h1 := 3) (offs := #[28, 101, 171]) (len := 28) 3 q5 (by decide +kernel) (by decide +kernel) (by decide +kernel) (by decide +kernel) (by decide) ?_
        refine zV_blk (pc' := 180) (lo' := [(0, .ref am), (1, .int x1), (2, .long x2)]) (st' := [.ref am]) [.aload_n 0] (by decide +kernel) rfl ?_
        refine m_get (idx := 18) (k := 12) (v := .ref a2) hW m_in12 (by decide) (zT_mem 1452 (by decide +kernel) rfl) rfl (by decide +kernel) ?_
        refine zV_blk (pc' := 187) (lo' := [(0, .ref am), (1, .int x1), (2, .long x2)]) (st' := [.int (x1 + 8), .ref a2]) [.iload_n 1, .bipush 8, .iadd] (by decide +kernel) rfl ?_
        obtain ⟨hz, h⟩ := zck_some h
        refine m_wld hW hz (by decide +kernel) ?_
        refine zV_blk (pc' := 194) (lo' := [(4, .int (w ((x1 + 8) : Int32).toNatClampNeg)), (0, .ref am), (1, .int x1), (2, .long x2)]) (st' := [.long ((w ((x1 + 8) : Int32).toNatClampNeg) : Int32).toInt64, .long x2]) [.istore 4, .lload_n 2, .iload 4, .i2l] (by decide +kernel) rfl ?_
        obtain ⟨v6, hv6, h⟩ := zbind h
        refine zV_sC (idx := 28) (rest := []) (cmfloor s0 D cB cI cJ cD x2 ((w ((x1 + 8) : Int32).toNatClampNeg) : Int32).toInt64 v6 hv6) oX12_floor (zT_mem 1698 (by decide +kernel) rfl) (zT_mem 1699 (by decide +kernel) rfl) rfl rfl (Nat.le_of_ble_eq_true rfl) ⟨by decide, by decide⟩ (by decide +kernel) ?_
        refine zV_eq (st2 := [.long v6]) rfl rfl rfl rfl ?_
        refine zV_blk (pc' := 198) (lo' := [(4, .int (w ((x1 + 8) : Int32).toNatClampNeg)), (0, .ref am), (1, .int x1), (2, .long x2)]) (st' := [.ref am, .long v6]) [.aload_n 0] (by decide +kernel) rfl ?_
        refine m_get (idx := 18) (k := 12) (v := .ref a2) hW m_in12 (by decide) (zT_mem 1452 (by decide +kernel) rfl) rfl (by decide +kernel) ?_
        refine zV_blk (pc' := 208) (lo' := [(4, .int (w ((x1 + 8) : Int32).toNatClampNeg)), (0, .ref am), (1, .int x1), (2, .long x2)]) (st' := [.int ((x1 + 40) + (w ((x1 + 8) : Int32).toNatClampNeg)), .ref a2, .long v6]) [.iload_n 1, .bipush 40, .iadd, .iload 4, .iadd] (by decide +kernel) rfl ?_
        obtain ⟨hz, h⟩ := zck_some h
        refine m_wld hW hz (by decide +kernel) ?_
        refine zV_blk (pc' := 212) (lo' := [(4, .int (w ((x1 + 8) : Int32).toNatClampNeg)), (0, .ref am), (1, .int x1), (2, .long x2)]) (st' := [.ref am, .long (v6 * ((w (((x1 + 40) + (w ((x1 + 8) : Int32).toNatClampNeg)) : Int32).toNatClampNeg) : Int32).toInt64)]) [.i2l, .lmul, .aload_n 0] (by decide +kernel) rfl ?_
        refine m_get (idx := 18) (k := 12) (v := .ref a2) hW m_in12 (by decide) (zT_mem 1452 (by decide +kernel) rfl) rfl (by decide +kernel) ?_
        refine zV_blk (pc' := 223) (lo' := [(4, .int (w ((x1 + 8) : Int32).toNatClampNeg)), (0, .ref am), (1, .int x1), (2, .long x2)]) (st' := [.long ((w ((x1 + 8) : Int32).toNatClampNeg) : Int32).toInt64, .long x2, .int (x1 + 40), .ref a2, .long (v6 * ((w (((x1 + 40) + (w ((x1 + 8) : Int32).toNatClampNeg)) : Int32).toNatClampNeg) : Int32).toInt64)]) [.iload_n 1, .bipush 40, .iadd, .lload_n 2, .iload 4, .i2l] (by decide +kernel) rfl ?_
        obtain ⟨v7, hv7, h⟩ := zbind h
        refine zV_sC (idx := 229) (rest := [.int (x1 + 40), .ref a2, .long (v6 * ((w (((x1 + 40) + (w ((x1 + 8) : Int32).toNatClampNeg)) : Int32).toNatClampNeg) : Int32).toInt64)]) (cmrest s0 D cB cI cJ cD x2 ((w ((x1 + 8) : Int32).toNatClampNeg) : Int32).toInt64 v7 hv7) oX12_rest (zT_mem 1701 (by decide +kernel) rfl) (zT_mem 1702 (by decide +kernel) rfl) rfl rfl (Nat.le_of_ble_eq_true rfl) ⟨by decide, by decide⟩ (by decide +kernel) ?_
        refine zV_eq (st2 := [.long v7, .int (x1 + 40), .ref a2, .long (v6 * ((w (((x1 + 40) + (w ((x1 + 8) : Int32).toNatClampNeg)) : Int32).toNatClampNeg) : Int32).toInt64)]) rfl rfl rfl rfl ?_
        refine zV_blk (pc' := 228) (lo' := [(4, .int (w ((x1 + 8) : Int32).toNatClampNeg)), (0, .ref am), (1, .int x1), (2, .long x2)]) (st' := [.int ((x1 + 40) + (v7 : Int64).toInt32), .ref a2, .long (v6 * ((w (((x1 + 40) + (w ((x1 + 8) : Int32).toNatClampNeg)) : Int32).toNatClampNeg) : Int32).toInt64)]) [.l2i, .iadd] (by decide +kernel) rfl ?_
        obtain ⟨hz, h⟩ := zck_some h
        refine m_wld hW hz (by decide +kernel) ?_
        refine zV_blk (pc' := 231) (lo' := [(4, .int (w ((x1 + 8) : Int32).toNatClampNeg)), (0, .ref am), (1, .int x1), (2, .long x2)]) (st' := [.long ((v6 * ((w (((x1 + 40) + (w ((x1 + 8) : Int32).toNatClampNeg)) : Int32).toNatClampNeg) : Int32).toInt64) + ((w (((x1 + 40) + (v7 : Int64).toInt32) : Int32).toNatClampNeg) : Int32).toInt64)]) [.i2l, .ladd] (by decide +kernel) rfl ?_
        obtain rfl := Option.some.inj h
        exact zV_lret rfl (by decide +kernel) (hQ _ rfl)
      · replace h := zif_neg q5 h
        refine zV_tout (tgt := 232) (dflt := 224) (l1 := 1) (h1 := 3) (offs := #[28, 101, 171]) (len := 28) (by have nq1 := zne 1 1 (by decide +kernel) q1; have nq4 := zne 2 2 (by decide +kernel) q4; have nq5 := zne 3 3 (by decide +kernel) q5; omega) (by decide +kernel) (by decide) ?_
        refine zV_blk (pc' := 233) (lo' := [(0, .ref am), (1, .int x1), (2, .long x2)]) (st' := [.long 0]) [.lconst 0] (by decide +kernel) rfl ?_
        obtain rfl := Option.some.inj h
        exact zV_lret rfl (by decide +kernel) (hQ _ rfl)

def mstartOf (n : Nat) (w : Nat → Int32) (x1 : Int32) (x2 : Int64) : Option (Int64) := zck (zin ((x1 + 1)) 35802) (zck (zin ((x1 + 2)) 35802) ((mleapsTo n w x1 x2).bind (fun v1 => some ((((w ((x1 + 1) : Int32).toNatClampNeg) : Int32).toInt64 * x2) + (((w ((x1 + 2) : Int32).toNatClampNeg) : Int32).toInt64 * v1)))))
theorem oX12_startOf : zO yX12_startOf cX12_startOf 4 (some .long) 2 := ⟨zT_mem 1745 (by decide +kernel) rfl, zT_mem 94 (by decide +kernel) rfl, by decide +kernel, by decide +kernel, by decide +kernel⟩
set_option maxHeartbeats 4000000 in
set_option maxRecDepth 100000 in
theorem cmstartOf (s0 : State) (D : va_G) (cB cI cJ cD : ClassId) (am a1 a2 a3 : Nat) (F : Nat → Int32) (G : Nat → Int64) (tp w oc : Nat → Int32) (n : Nat) (x1 : Int32) (x2 : Int64) (x : Int64) (h : mstartOf n w x1 x2 = some x) : mR s0 D cB cI cJ cD am a1 a2 a3 yX12_startOf cX12_startOf 4 (some .long) 3 74 [.int x1, .long x2] F G tp w oc (some (.long x)) := by
  intro hi hm nx Q hW hQ0
  have hQ : ∀ r : Int64, x = r → Q (some (.long r)) hi hm nx := fun r hr => by subst hr; exact hQ0
  refine zM_of (by decide +kernel) (Nat.le_of_ble_eq_true rfl) ?_
  unfold mstartOf at h
  refine zV_eq (lo2 := [(0, .ref am), (1, .int x1), (2, .long x2)]) rfl rfl rfl rfl ?_
  refine zV_blk (pc' := 1) (lo' := [(0, .ref am), (1, .int x1), (2, .long x2)]) (st' := [.ref am]) [.aload_n 0] (by decide +kernel) rfl ?_
  refine m_get (idx := 18) (k := 12) (v := .ref a2) hW m_in12 (by decide) (zT_mem 1452 (by decide +kernel) rfl) rfl (by decide +kernel) ?_
  refine zV_blk (pc' := 7) (lo' := [(0, .ref am), (1, .int x1), (2, .long x2)]) (st' := [.int (x1 + 1), .ref a2]) [.iload_n 1, .iconst 1, .iadd] (by decide +kernel) rfl ?_
  obtain ⟨hz, h⟩ := zck_some h
  refine m_wld hW hz (by decide +kernel) ?_
  refine zV_blk (pc' := 12) (lo' := [(0, .ref am), (1, .int x1), (2, .long x2)]) (st' := [.ref am, .long (((w ((x1 + 1) : Int32).toNatClampNeg) : Int32).toInt64 * x2)]) [.i2l, .lload_n 2, .lmul, .aload_n 0] (by decide +kernel) rfl ?_
  refine m_get (idx := 18) (k := 12) (v := .ref a2) hW m_in12 (by decide) (zT_mem 1452 (by decide +kernel) rfl) rfl (by decide +kernel) ?_
  refine zV_blk (pc' := 18) (lo' := [(0, .ref am), (1, .int x1), (2, .long x2)]) (st' := [.int (x1 + 2), .ref a2, .long (((w ((x1 + 1) : Int32).toNatClampNeg) : Int32).toInt64 * x2)]) [.iload_n 1, .iconst 2, .iadd] (by decide +kernel) rfl ?_
  obtain ⟨hz, h⟩ := zck_some h
  refine m_wld hW hz (by decide +kernel) ?_
  refine zV_blk (pc' := 23) (lo' := [(0, .ref am), (1, .int x1), (2, .long x2)]) (st' := [.long x2, .int x1, .ref am, .long ((w ((x1 + 2) : Int32).toNatClampNeg) : Int32).toInt64, .long (((w ((x1 + 1) : Int32).toNatClampNeg) : Int32).toInt64 * x2)]) [.i2l, .aload_n 0, .iload_n 1, .lload_n 2] (by decide +kernel) rfl ?_
  obtain ⟨v1, hv1, h⟩ := zbind h
  refine m_cR (idx := 232) (rest := [.long ((w ((x1 + 2) : Int32).toNatClampNeg) : Int32).toInt64, .long (((w ((x1 + 1) : Int32).toNatClampNeg) : Int32).toInt64 * x2)]) hW (cmleapsTo s0 D cB cI cJ cD am a1 a2 a3 F G tp w oc n x1 x2 v1 hv1) oX12_leapsTo rfl (zT_mem 1694 (by decide +kernel) rfl) (zT_mem 1696 (by decide +kernel) rfl) (zT_mem 51 (by decide +kernel) rfl) rfl rfl (Nat.le_of_ble_eq_true rfl) ⟨by decide, by decide⟩ (by decide +kernel) ?_
  refine zV_eq (st2 := [.long v1, .long ((w ((x1 + 2) : Int32).toNatClampNeg) : Int32).toInt64, .long (((w ((x1 + 1) : Int32).toNatClampNeg) : Int32).toInt64 * x2)]) rfl rfl rfl rfl ?_
  refine zV_blk (pc' := 28) (lo' := [(0, .ref am), (1, .int x1), (2, .long x2)]) (st' := [.long ((((w ((x1 + 1) : Int32).toNatClampNeg) : Int32).toInt64 * x2) + (((w ((x1 + 2) : Int32).toNatClampNeg) : Int32).toInt64 * v1))]) [.lmul, .ladd] (by decide +kernel) rfl ?_
  obtain rfl := Option.some.inj h
  exact zV_lret rfl (by decide +kernel) (hQ _ rfl)

def mdaysOf (n : Nat) (w : Nat → Int32) (x1 : Int32) (x2 : Int64) : Option (Int32) := zck (zin ((x1 + 1)) 35802) ((misLeap n w x1 x2).bind (fun v1 => (if v1 = true then zck (zin ((x1 + 2)) 35802) (some ((w ((x1 + 1) : Int32).toNatClampNeg) + (w ((x1 + 2) : Int32).toNatClampNeg))) else some ((w ((x1 + 1) : Int32).toNatClampNeg) + 0))))
theorem oX12_daysOf : zO yX12_daysOf cX12_daysOf 4 (some .int) 2 := ⟨zT_mem 1840 (by decide +kernel) rfl, zT_mem 94 (by decide +kernel) rfl, by decide +kernel, by decide +kernel, by decide +kernel⟩
set_option maxHeartbeats 4000000 in
set_option maxRecDepth 100000 in
theorem cmdaysOf (s0 : State) (D : va_G) (cB cI cJ cD : ClassId) (am a1 a2 a3 : Nat) (F : Nat → Int32) (G : Nat → Int64) (tp w oc : Nat → Int32) (n : Nat) (x1 : Int32) (x2 : Int64) (x : Int32) (h : mdaysOf n w x1 x2 = some x) : mR s0 D cB cI cJ cD am a1 a2 a3 yX12_daysOf cX12_daysOf 4 (some .int) 3 72 [.int x1, .long x2] F G tp w oc (some (.int x)) := by
  intro hi hm nx Q hW hQ0
  have hQ : ∀ r : Int32, x = r → Q (some (.int r)) hi hm nx := fun r hr => by subst hr; exact hQ0
  refine zM_of (by decide +kernel) (Nat.le_of_ble_eq_true rfl) ?_
  unfold mdaysOf at h
  refine zV_eq (lo2 := [(0, .ref am), (1, .int x1), (2, .long x2)]) rfl rfl rfl rfl ?_
  refine zV_blk (pc' := 1) (lo' := [(0, .ref am), (1, .int x1), (2, .long x2)]) (st' := [.ref am]) [.aload_n 0] (by decide +kernel) rfl ?_
  refine m_get (idx := 18) (k := 12) (v := .ref a2) hW m_in12 (by decide) (zT_mem 1452 (by decide +kernel) rfl) rfl (by decide +kernel) ?_
  refine zV_blk (pc' := 7) (lo' := [(0, .ref am), (1, .int x1), (2, .long x2)]) (st' := [.int (x1 + 1), .ref a2]) [.iload_n 1, .iconst 1, .iadd] (by decide +kernel) rfl ?_
  obtain ⟨hz, h⟩ := zck_some h
  refine m_wld hW hz (by decide +kernel) ?_
  refine zV_blk (pc' := 11) (lo' := [(0, .ref am), (1, .int x1), (2, .long x2)]) (st' := [.long x2, .int x1, .ref am, .int (w ((x1 + 1) : Int32).toNatClampNeg)]) [.aload_n 0, .iload_n 1, .lload_n 2] (by decide +kernel) rfl ?_
  obtain ⟨v1, hv1, h⟩ := zbind h
  refine m_cR (idx := 236) (rest := [.int (w ((x1 + 1) : Int32).toNatClampNeg)]) hW (cmisLeap s0 D cB cI cJ cD am a1 a2 a3 F G tp w oc n x1 x2 v1 hv1) oX12_isLeap rfl (zT_mem 1805 (by decide +kernel) rfl) (zT_mem 1807 (by decide +kernel) rfl) (zT_mem 64 (by decide +kernel) rfl) rfl rfl (Nat.le_of_ble_eq_true rfl) ⟨by decide, by decide⟩ (by decide +kernel) ?_
  refine zV_eq (st2 := [.int (zb v1), .int (w ((x1 + 1) : Int32).toNatClampNeg)]) rfl rfl rfl rfl ?_
  refine zV_bif_eq (tgt := 28) (off := 14) (by decide +kernel) (by decide) (fun q => ?_) (fun q => ?_)
  · replace h := zif_neg q h
    clear q
    refine zV_blk (pc' := 30) (lo' := [(0, .ref am), (1, .int x1), (2, .long x2)]) (st' := [.int ((w ((x1 + 1) : Int32).toNatClampNeg) + 0)]) [.iconst 0, .iadd] (by decide +kernel) rfl ?_
    obtain rfl := Option.some.inj h
    exact zV_iret rfl (by decide +kernel) (hQ _ rfl)
  · replace h := zif_pos q h
    clear q
    refine zV_blk (pc' := 18) (lo' := [(0, .ref am), (1, .int x1), (2, .long x2)]) (st' := [.ref am, .int (w ((x1 + 1) : Int32).toNatClampNeg)]) [.aload_n 0] (by decide +kernel) rfl ?_
    refine m_get (idx := 18) (k := 12) (v := .ref a2) hW m_in12 (by decide) (zT_mem 1452 (by decide +kernel) rfl) rfl (by decide +kernel) ?_
    refine zV_blk (pc' := 24) (lo' := [(0, .ref am), (1, .int x1), (2, .long x2)]) (st' := [.int (x1 + 2), .ref a2, .int (w ((x1 + 1) : Int32).toNatClampNeg)]) [.iload_n 1, .iconst 2, .iadd] (by decide +kernel) rfl ?_
    obtain ⟨hz, h⟩ := zck_some h
    refine m_wld hW hz (by decide +kernel) ?_
    refine zV_goto (tgt := 29) (off := 4) (by decide +kernel) (by decide) ?_
    refine zV_blk (pc' := 30) (lo' := [(0, .ref am), (1, .int x1), (2, .long x2)]) (st' := [.int ((w ((x1 + 1) : Int32).toNatClampNeg) + (w ((x1 + 2) : Int32).toNatClampNeg))]) [.iadd] (by decide +kernel) rfl ?_
    obtain rfl := Option.some.inj h
    exact zV_iret rfl (by decide +kernel) (hQ _ rfl)

def misYear (x0 : Int64) : Option (Bool) := (misIn x0 (-100000) 100000).bind (fun v1 => some v1)
theorem oX12_isYear : zO yX12_isYear cX12_isYear 2 (some .boolean) 1 := ⟨zT_mem 1819 (by decide +kernel) rfl, zT_mem 94 (by decide +kernel) rfl, by decide +kernel, by decide +kernel, by decide +kernel⟩
set_option maxHeartbeats 4000000 in
set_option maxRecDepth 100000 in
theorem cmisYear (s0 : State) (D : va_G) (cB cI cJ cD : ClassId) (x0 : Int64) (x : Bool) (h : misYear x0 = some x) : sC s0 D (zty cB cI cJ cD) yX12_isYear cX12_isYear 2 (some .boolean) 1 25 [.long x0] (.int (zb x)) := by
  intro hi hm nx Q hQ0
  have hQ : ∀ r : Bool, x = r → Q (some (.int (zb r))) hi hm nx := fun r hr => by subst hr; exact hQ0
  refine zM_of (by decide +kernel) (Nat.le_of_ble_eq_true rfl) ?_
  unfold misYear at h
  refine zV_eq (lo2 := [(0, .long x0)]) rfl rfl rfl rfl ?_
  refine zV_blk (pc' := 1) (lo' := [(0, .long x0)]) (st' := [.long x0]) [.lload_n 0] (by decide +kernel) rfl ?_
  refine zV_ldc2 (idx := 240) (v := (-100000)) (zT_mem 1820 (by decide +kernel) rfl) (by decide +kernel) ?_
  refine zV_ldc2 (idx := 242) (v := 100000) (zT_mem 1821 (by decide +kernel) rfl) (by decide +kernel) ?_
  obtain ⟨v1, hv1, h⟩ := zbind h
  refine zV_sC (idx := 36) (rest := []) (cmisIn s0 D cB cI cJ cD x0 (-100000) 100000 v1 hv1) oX12_isIn (zT_mem 1531 (by decide +kernel) rfl) (zT_mem 1532 (by decide +kernel) rfl) rfl rfl (Nat.le_of_ble_eq_true rfl) ⟨by decide, by decide⟩ (by decide +kernel) ?_
  refine zV_eq (st2 := [.int (zb v1)]) rfl rfl rfl rfl ?_
  obtain rfl := Option.some.inj h
  exact zV_bret rfl (by decide +kernel) (hQ _ rfl)

def misDay (n : Nat) (w : Nat → Int32) (x1 : Int32) (x2 : Int64) : Option (Bool) := (mstartOf n w x1 (-100000)).bind (fun v1 => (if (x2 : Int64) < (v1 : Int64) then some false else (mstartOf n w x1 100001).bind (fun v2 => (if (v2 : Int64) ≤ (x2 : Int64) then some false else some true))))
theorem oX12_isDay : zO yX12_isDay cX12_isDay 4 (some .boolean) 2 := ⟨zT_mem 1848 (by decide +kernel) rfl, zT_mem 94 (by decide +kernel) rfl, by decide +kernel, by decide +kernel, by decide +kernel⟩
set_option maxHeartbeats 4000000 in
set_option maxRecDepth 100000 in
theorem cmisDay (s0 : State) (D : va_G) (cB cI cJ cD : ClassId) (am a1 a2 a3 : Nat) (F : Nat → Int32) (G : Nat → Int64) (tp w oc : Nat → Int32) (n : Nat) (x1 : Int32) (x2 : Int64) (x : Bool) (h : misDay n w x1 x2 = some x) : mR s0 D cB cI cJ cD am a1 a2 a3 yX12_isDay cX12_isDay 4 (some .boolean) 4 97 [.int x1, .long x2] F G tp w oc (some (.int (zb x))) := by
  intro hi hm nx Q hW hQ0
  have hQ : ∀ r : Bool, x = r → Q (some (.int (zb r))) hi hm nx := fun r hr => by subst hr; exact hQ0
  refine zM_of (by decide +kernel) (Nat.le_of_ble_eq_true rfl) ?_
  unfold misDay at h
  refine zV_eq (lo2 := [(0, .ref am), (1, .int x1), (2, .long x2)]) rfl rfl rfl rfl ?_
  refine zV_blk (pc' := 3) (lo' := [(0, .ref am), (1, .int x1), (2, .long x2)]) (st' := [.int x1, .ref am, .long x2]) [.lload_n 2, .aload_n 0, .iload_n 1] (by decide +kernel) rfl ?_
  refine zV_ldc2 (idx := 240) (v := (-100000)) (zT_mem 1820 (by decide +kernel) rfl) (by decide +kernel) ?_
  obtain ⟨v1, hv1, h⟩ := zbind h
  refine m_cR (idx := 244) (rest := [.long x2]) hW (cmstartOf s0 D cB cI cJ cD am a1 a2 a3 F G tp w oc n x1 (-100000) v1 hv1) oX12_startOf rfl (zT_mem 1742 (by decide +kernel) rfl) (zT_mem 1744 (by decide +kernel) rfl) (zT_mem 56 (by decide +kernel) rfl) rfl rfl (Nat.le_of_ble_eq_true rfl) ⟨by decide, by decide⟩ (by decide +kernel) ?_
  refine zV_eq (st2 := [.long v1, .long x2]) rfl rfl rfl rfl ?_
  refine zV_blk (pc' := 10) (lo' := [(0, .ref am), (1, .int x1), (2, .long x2)]) (st' := [.int (lg_cmp x2 v1)]) [.lcmp] (by decide +kernel) rfl ?_
  refine zV_lcmp_lt (tgt := 30) (off := 20) (by decide +kernel) (by decide) (fun q => ?_) (fun q => ?_)
  · replace h := zif_pos q h
    clear q
    refine zV_blk (pc' := 31) (lo' := [(0, .ref am), (1, .int x1), (2, .long x2)]) (st' := [.int 0]) [.iconst 0] (by decide +kernel) rfl ?_
    obtain rfl := Option.some.inj h
    refine zV_eq (st2 := [.int (zb false)]) rfl rfl rfl rfl ?_
    exact zV_bret rfl (by decide +kernel) (hQ _ rfl)
  · replace h := zif_neg q h
    clear q
    refine zV_blk (pc' := 16) (lo' := [(0, .ref am), (1, .int x1), (2, .long x2)]) (st' := [.int x1, .ref am, .long x2]) [.lload_n 2, .aload_n 0, .iload_n 1] (by decide +kernel) rfl ?_
    refine zV_ldc2 (idx := 247) (v := 100001) (zT_mem 1849 (by decide +kernel) rfl) (by decide +kernel) ?_
    obtain ⟨v2, hv2, h⟩ := zbind h
    refine m_cR (idx := 244) (rest := [.long x2]) hW (cmstartOf s0 D cB cI cJ cD am a1 a2 a3 F G tp w oc n x1 100001 v2 hv2) oX12_startOf rfl (zT_mem 1742 (by decide +kernel) rfl) (zT_mem 1744 (by decide +kernel) rfl) (zT_mem 56 (by decide +kernel) rfl) rfl rfl (Nat.le_of_ble_eq_true rfl) ⟨by decide, by decide⟩ (by decide +kernel) ?_
    refine zV_eq (st2 := [.long v2, .long x2]) rfl rfl rfl rfl ?_
    refine zV_blk (pc' := 23) (lo' := [(0, .ref am), (1, .int x1), (2, .long x2)]) (st' := [.int (lg_cmp x2 v2)]) [.lcmp] (by decide +kernel) rfl ?_
    refine zV_lcmp_ge (tgt := 30) (off := 7) (by decide +kernel) (by decide) (fun q => ?_) (fun q => ?_)
    · replace h := zif_pos q h
      clear q
      refine zV_blk (pc' := 31) (lo' := [(0, .ref am), (1, .int x1), (2, .long x2)]) (st' := [.int 0]) [.iconst 0] (by decide +kernel) rfl ?_
      obtain rfl := Option.some.inj h
      refine zV_eq (st2 := [.int (zb false)]) rfl rfl rfl rfl ?_
      exact zV_bret rfl (by decide +kernel) (hQ _ rfl)
    · replace h := zif_neg q h
      clear q
      refine zV_blk (pc' := 27) (lo' := [(0, .ref am), (1, .int x1), (2, .long x2)]) (st' := [.int 1]) [.iconst 1] (by decide +kernel) rfl ?_
      refine zV_goto (tgt := 31) (off := 4) (by decide +kernel) (by decide) ?_
      obtain rfl := Option.some.inj h
      refine zV_eq (st2 := [.int (zb true)]) rfl rfl rfl rfl ?_
      exact zV_bret rfl (by decide +kernel) (hQ _ rfl)

