def r_readDesign_93 (n : Nat) (R : Nat → Int32) (lv : vLaw) (mo : Option vArr) (ty : vTrue) (F : Nat → Int32) (tp : Nat → Int32) : Option ((Option vDes) × (Nat → Int32) × (vLaw) × (Option vArr) × (vTrue) × (Nat → Int32)) := (if ((F 3) : Int32) = (0 : Int32) then zOm (mo) (none) (fun z4 => (k_newFrame (R 2) (R 3) z4 (R 6) (R 7) (R 8)).bind (fun v6 => (k_newDes v6 lv ty).bind (fun v14 => some ((some v14), R, lv, mo, ty, F)))) else some (none, R, lv, mo, ty, F))
set_option maxHeartbeats 4000000 in
set_option maxRecDepth 100000 in
theorem cr_readDesign_93 (s0 : State) (D : va_G) (X : Nat → Prop) (cB cI cJ cD : ClassId) (rA sA tA : Nat) (R : Nat → Int32) (lv : vLaw) (mo : Option vArr) (ty : vTrue) (F : Nat → Int32) (tp : Nat → Int32) (n : Nat) {x : (Option vDes) × (Nat → Int32) × (vLaw) × (Option vArr) × (vTrue) × (Nat → Int32)} {hi0 hi hm0 hm : zHp} {nx : Nat} {Q : Option Value → zHp → zHp → Nat → Prop} (hW : qW X cB cI rA sA tA R lv mo ty F tp hi hm) (hXX : zX hi0 hi) (hFr : lFr X hm0 hm) (h : r_readDesign_93 n R lv mo ty F tp  = some x) (hQ : ∀ r : (Option vDes) × (Nat → Int32) × (vLaw) × (Option vArr) × (vTrue) × (Nat → Int32), x = r → ∀ (v' : Option Value) (hi' hm' : zHp) (nx' : Nat), zX hi0 hi' → zOp (iDes cI hi') v' r.1 → qW X cB cI rA sA tA r.2.1 r.2.2.1 r.2.2.2.1 r.2.2.2.2.1 r.2.2.2.2.2 tp hi' hm' → lFr X hm0 hm' → Q v' hi' hm' nx') : zV s0 D (zty cB cI cJ cD) yX7_readDesign cX7_readDesign 2 (some (.object "LeapDesigner$Design")) 7 154 2 9 93 [(0, .ref rA)] [] hi hm nx Q := by
  unfold r_readDesign_93 at h
  refine zV_blk (pc' := 94) (lo' := [(0, .ref rA)]) (st' := [.ref rA]) [.aload_n 0] (by decide +kernel) rfl ?_
  refine q_get (idx := 56) (k := 0) (v := .ref sA) hW (by decide) (zT_mem 297 (by decide +kernel) rfl) (fun _ _ _ => rfl) (by decide +kernel) ?_
  refine q_sget (idx := 65) (k := 3) hW (by decide) (zT_mem 234 (by decide +kernel) rfl) (by decide +kernel) ?_
  refine zV_if_eq (tgt := 105) (off := 5) (by decide +kernel) (by decide) (fun q => ?_) (fun q => ?_)
  · replace h := zif_pos q h
    clear q
    refine qo_new (mc := 1) (ms := 6) (ci := 0) (idx := 85) (N := 3) (fs := [.null, .null, .null]) tyX0 hW rfl z_in0 tyX0_ok (zT_mem 523 (by decide +kernel) rfl) (zT_mem 524 (by decide +kernel) rfl) (zT_mem 105 (by decide +kernel) rfl) (fun j hj => by rcases (show j = 0 ∨ j = 1 ∨ j = 2 by omega) with rfl | rfl | rfl <;> rfl) (by decide +kernel) (fun hm2 nxb1 b1 hO hFr2 => ?_)
    replace hFr := hFr.tr hFr2; clear hFr2
    clear hW; obtain ⟨hW, hcb1, hxb1, hnb1⟩ := hO
    refine zV_blk (pc' := 109) (lo' := [(0, .ref rA)]) (st' := [.ref b1, .ref b1]) [.dup] (by decide +kernel) rfl ?_
    refine qo_new (mc := 0) (ms := 0) (ci := 3) (idx := 87) (N := 6) (fs := [.int 0, .int 0, .null, .int 0, .int 0, .int 0]) tyX3 hW rfl z_in3 tyX3_ok (zT_mem 525 (by decide +kernel) rfl) (zT_mem 526 (by decide +kernel) rfl) (zT_mem 106 (by decide +kernel) rfl) (fun j hj => by rcases (show j = 0 ∨ j = 1 ∨ j = 2 ∨ j = 3 ∨ j = 4 ∨ j = 5 by omega) with rfl | rfl | rfl | rfl | rfl | rfl <;> rfl) (by decide +kernel) (fun hm2 nxb2 b2 hO hFr2 => ?_)
    replace hcb1 := (hFr2 _ (Or.inr rfl)).trans hcb1
    replace hFr := hFr.tr (fun q hq => hFr2 q (Or.inl hq)); clear hFr2
    clear hW; obtain ⟨hW, hcb2, hxb2, hnb2⟩ := hO
    refine zV_blk (pc' := 114) (lo' := [(0, .ref rA)]) (st' := [.ref rA, .ref b2, .ref b2, .ref b1, .ref b1]) [.dup, .aload_n 0] (by decide +kernel) rfl ?_
    refine q_get (idx := 15) (k := 2) (v := .int (R 2)) hW (by decide) (zT_mem 299 (by decide +kernel) rfl) (fun _ _ _ => rfl) (by decide +kernel) ?_
    refine zV_blk (pc' := 118) (lo' := [(0, .ref rA)]) (st' := [.ref rA, .int (R 2), .ref b2, .ref b2, .ref b1, .ref b1]) [.aload_n 0] (by decide +kernel) rfl ?_
    refine q_get (idx := 18) (k := 3) (v := .int (R 3)) hW (by decide) (zT_mem 300 (by decide +kernel) rfl) (fun _ _ _ => rfl) (by decide +kernel) ?_
    refine zV_blk (pc' := 122) (lo' := [(0, .ref rA)]) (st' := [.ref rA, .int (R 3), .int (R 2), .ref b2, .ref b2, .ref b1, .ref b1]) [.aload_n 0] (by decide +kernel) rfl ?_
    refine q_getM (idx := 28) hW (zT_mem 302 (by decide +kernel) rfl) (by decide +kernel) (fun hx => ?_) (fun b3 z4 hx ho5 => ?_)
    · replace h := zOm_n hx h
      refine zV_blk (pc' := 126) (lo' := [(0, .ref rA)]) (st' := [.ref rA, .null, .int (R 3), .int (R 2), .ref b2, .ref b2, .ref b1, .ref b1]) [.aload_n 0] (by decide +kernel) rfl ?_
      refine q_get (idx := 32) (k := 6) (v := .int (R 6)) hW (by decide) (zT_mem 303 (by decide +kernel) rfl) (fun _ _ _ => rfl) (by decide +kernel) ?_
      refine zV_blk (pc' := 130) (lo' := [(0, .ref rA)]) (st' := [.ref rA, .int (R 6), .null, .int (R 3), .int (R 2), .ref b2, .ref b2, .ref b1, .ref b1]) [.aload_n 0] (by decide +kernel) rfl ?_
      refine q_get (idx := 35) (k := 7) (v := .int (R 7)) hW (by decide) (zT_mem 304 (by decide +kernel) rfl) (fun _ _ _ => rfl) (by decide +kernel) ?_
      refine zV_blk (pc' := 134) (lo' := [(0, .ref rA)]) (st' := [.ref rA, .int (R 7), .int (R 6), .null, .int (R 3), .int (R 2), .ref b2, .ref b2, .ref b1, .ref b1]) [.aload_n 0] (by decide +kernel) rfl ?_
      refine q_get (idx := 38) (k := 8) (v := .int (R 8)) hW (by decide) (zT_mem 305 (by decide +kernel) rfl) (fun _ _ _ => rfl) (by decide +kernel) ?_
      cases h
    · replace h := zOm_s hx h
      refine zV_blk (pc' := 126) (lo' := [(0, .ref rA)]) (st' := [.ref rA, .ref b3, .int (R 3), .int (R 2), .ref b2, .ref b2, .ref b1, .ref b1]) [.aload_n 0] (by decide +kernel) rfl ?_
      refine q_get (idx := 32) (k := 6) (v := .int (R 6)) hW (by decide) (zT_mem 303 (by decide +kernel) rfl) (fun _ _ _ => rfl) (by decide +kernel) ?_
      refine zV_blk (pc' := 130) (lo' := [(0, .ref rA)]) (st' := [.ref rA, .int (R 6), .ref b3, .int (R 3), .int (R 2), .ref b2, .ref b2, .ref b1, .ref b1]) [.aload_n 0] (by decide +kernel) rfl ?_
      refine q_get (idx := 35) (k := 7) (v := .int (R 7)) hW (by decide) (zT_mem 304 (by decide +kernel) rfl) (fun _ _ _ => rfl) (by decide +kernel) ?_
      refine zV_blk (pc' := 134) (lo' := [(0, .ref rA)]) (st' := [.ref rA, .int (R 7), .int (R 6), .ref b3, .int (R 3), .int (R 2), .ref b2, .ref b2, .ref b1, .ref b1]) [.aload_n 0] (by decide +kernel) rfl ?_
      refine q_get (idx := 38) (k := 8) (v := .int (R 8)) hW (by decide) (zT_mem 305 (by decide +kernel) rfl) (fun _ _ _ => rfl) (by decide +kernel) ?_
      obtain ⟨v6, hv6, h⟩ := zbind h
      refine qo_mk (idx := 89) (As := [.int (R 2), .int (R 3), .ref b3, .int (R 6), .int (R 7), .int (R 8)]) (rest := [.ref b2, .ref b1, .ref b1]) (d' := .inr (3, [.int v6.1, .int v6.2.1, .ref b3, .int v6.2.2.2.1, .int v6.2.2.2.2.1, .int v6.2.2.2.2.2])) ⟨hW, hcb2, hxb2, hnb2⟩ (fun Q2 hQ2 => ck_newFrame s0 D cB cI cJ cD (R 2) (R 3) z4 (R 6) (R 7) (R 8) b2 b3 v6 hv6 ho5 hcb2 hQ2) oX3_init rfl (zT_mem 527 (by decide +kernel) rfl) (zT_mem 528 (by decide +kernel) rfl) rfl rfl (Nat.le_of_ble_eq_true rfl) ⟨by decide, by decide⟩ (by decide +kernel) (fun hi2 hm2 hX hW2 hFr2 hc7 => ?_)
      clear hcb2 hxb2 hnb2
      replace hcb1 := (hFr2 _ (Or.inr rfl)).trans hcb1
      replace hFr := hFr.tr (fun q hq => hFr2 q (Or.inl hq)); clear hFr2
      clear hW; have hW := hW2; clear hW2
      replace ho5 := ho5.mono hX
      replace hXX := hXX.tr hX; clear hX
      have eq9 : v6.2.2.1 = z4 := by have hv := hv6; unfold k_newFrame at hv; first | (cases hv; rfl) | (obtain ⟨w, hw, hv⟩ := zbind hv; cases hv; rfl)
      have ho8 : iFrame cI hi2 b2 v6 := ⟨b3, hc7, (by rw [eq9]; exact ho5)⟩
      refine zV_blk (pc' := 141) (lo' := [(0, .ref rA)]) (st' := [.ref rA, .ref b2, .ref b1, .ref b1]) [.aload_n 0] (by decide +kernel) rfl ?_
      refine q_getL (idx := 24) hW (zT_mem 301 (by decide +kernel) rfl) (by decide +kernel) (fun b10 ho11 => ?_)
      refine zV_blk (pc' := 145) (lo' := [(0, .ref rA)]) (st' := [.ref rA, .ref b10, .ref b2, .ref b1, .ref b1]) [.aload_n 0] (by decide +kernel) rfl ?_
      refine q_getT (idx := 46) hW (zT_mem 306 (by decide +kernel) rfl) (by decide +kernel) (fun b12 ho13 => ?_)
      obtain ⟨v14, hv14, h⟩ := zbind h
      refine qo_mk (idx := 92) (As := [.ref b2, .ref b10, .ref b12]) (rest := [.ref b1]) (d' := .inr (0, [.ref b2, .ref b10, .ref b12])) ⟨hW, hcb1, hxb1, hnb1⟩ (fun Q2 hQ2 => ck_newDes s0 D cB cI cJ cD v6 lv ty b1 b2 b10 b12 v14 hv14 ho8 ho11 ho13 hcb1 hQ2) oX0_init rfl (zT_mem 559 (by decide +kernel) rfl) (zT_mem 560 (by decide +kernel) rfl) rfl rfl (Nat.le_of_ble_eq_true rfl) ⟨by decide, by decide⟩ (by decide +kernel) (fun hi2 hm2 hX hW2 hFr2 hc15 => ?_)
      clear hcb1 hxb1 hnb1
      replace hFr := hFr.tr hFr2; clear hFr2
      clear hW; have hW := hW2; clear hW2
      replace ho8 := ho8.mono hX
      replace ho11 := ho11.mono hX
      replace ho13 := ho13.mono hX
      replace hXX := hXX.tr hX; clear hX
      have eq17 : v14.1 = v6 := by have hv := hv14; unfold k_newDes at hv; first | (cases hv; rfl) | (obtain ⟨w, hw, hv⟩ := zbind hv; cases hv; rfl)
      have eq18 : v14.2.1 = lv := by have hv := hv14; unfold k_newDes at hv; first | (cases hv; rfl) | (obtain ⟨w, hw, hv⟩ := zbind hv; cases hv; rfl)
      have eq19 : v14.2.2 = ty := by have hv := hv14; unfold k_newDes at hv; first | (cases hv; rfl) | (obtain ⟨w, hw, hv⟩ := zbind hv; cases hv; rfl)
      have ho16 : iDes cI hi2 b1 v14 := ⟨b2, b10, b12, hc15, (by rw [eq17]; exact ho8), (by rw [eq18]; exact ho11), (by rw [eq19]; exact ho13)⟩
      obtain rfl := Option.some.inj h
      exact zV_aret rfl (Or.inl ⟨_, rfl⟩) (Or.inr ⟨_, rfl⟩) (by decide +kernel) (hQ _ rfl _ _ _ _ hXX (Or.inr ⟨_, _, rfl, rfl, ho16⟩) hW hFr)
  · replace h := zif_neg q h
    clear q
    refine zV_less (mc' := 0) (ms' := 0) (by decide) (by decide) ?_
    refine zV_blk (pc' := 104) (lo' := [(0, .ref rA)]) (st' := [.null]) [.aconst_null] (by decide +kernel) rfl ?_
    obtain rfl := Option.some.inj h
    exact zV_aret rfl (Or.inl ⟨_, rfl⟩) (Or.inl rfl) (by decide +kernel) (hQ _ rfl _ _ _ _ hXX (Or.inl ⟨rfl, rfl⟩) hW hFr)
def r_readDesign_67 (n : Nat) (R : Nat → Int32) (lv : vLaw) (mo : Option vArr) (ty : vTrue) (F : Nat → Int32) (tp : Nat → Int32) : Option ((Option vDes) × (Nat → Int32) × (vLaw) × (Option vArr) × (vTrue) × (Nat → Int32)) := (r_sumOfMonths n mo).bind (fun v1 => (if (v1 : Int32) = ((R 2) : Int32) then (r_readDesign_93 n R lv mo ty F tp  ) else (n_fail F 5 (F 0)).bind (fun v3 => (r_readDesign_93 n R lv mo ty v3 tp  ))))
set_option maxHeartbeats 4000000 in
set_option maxRecDepth 100000 in
theorem cr_readDesign_67 (s0 : State) (D : va_G) (X : Nat → Prop) (cB cI cJ cD : ClassId) (rA sA tA : Nat) (R : Nat → Int32) (lv : vLaw) (mo : Option vArr) (ty : vTrue) (F : Nat → Int32) (tp : Nat → Int32) (n : Nat) {x : (Option vDes) × (Nat → Int32) × (vLaw) × (Option vArr) × (vTrue) × (Nat → Int32)} {hi0 hi hm0 hm : zHp} {nx : Nat} {Q : Option Value → zHp → zHp → Nat → Prop} (hW : qW X cB cI rA sA tA R lv mo ty F tp hi hm) (hXX : zX hi0 hi) (hFr : lFr X hm0 hm) (h : r_readDesign_67 n R lv mo ty F tp  = some x) (hQ : ∀ r : (Option vDes) × (Nat → Int32) × (vLaw) × (Option vArr) × (vTrue) × (Nat → Int32), x = r → ∀ (v' : Option Value) (hi' hm' : zHp) (nx' : Nat), zX hi0 hi' → zOp (iDes cI hi') v' r.1 → qW X cB cI rA sA tA r.2.1 r.2.2.1 r.2.2.2.1 r.2.2.2.2.1 r.2.2.2.2.2 tp hi' hm' → lFr X hm0 hm' → Q v' hi' hm' nx') : zV s0 D (zty cB cI cJ cD) yX7_readDesign cX7_readDesign 2 (some (.object "LeapDesigner$Design")) 7 154 2 9 67 [(0, .ref rA)] [] hi hm nx Q := by
  unfold r_readDesign_67 at h
  refine zV_blk (pc' := 68) (lo' := [(0, .ref rA)]) (st' := [.ref rA]) [.aload_n 0] (by decide +kernel) rfl ?_
  obtain ⟨v1, hv1, h⟩ := zbind h
  refine q_call (mc := 2) (ms := 9) (idx := 74) (As := []) (rest := []) hW (fun Q2 hQ2 => cr_sumOfMonths s0 D X cB cI cJ cD rA sA tA R lv mo ty F tp n   v1 hv1 hW  hQ2) oX7_sumOfMonths rfl (zT_mem 519 (by decide +kernel) rfl) (zT_mem 521 (by decide +kernel) rfl) (zT_mem 9 (by decide +kernel) rfl) rfl rfl (Nat.le_of_ble_eq_true rfl) ⟨by decide, by decide⟩ (by decide +kernel) ?_
  intro hi2 hm2 nx2 hX hW2 hFr2
  clear hW; have hW := hW2; clear hW2
  replace hXX := hXX.tr hX; clear hX
  replace hFr := hFr.tr hFr2; clear hFr2
  refine zV_eq (st2 := [.int v1]) rfl rfl rfl rfl ?_
  refine zV_blk (pc' := 72) (lo' := [(0, .ref rA)]) (st' := [.ref rA, .int v1]) [.aload_n 0] (by decide +kernel) rfl ?_
  refine q_get (idx := 15) (k := 2) (v := .int (R 2)) hW (by decide) (zT_mem 299 (by decide +kernel) rfl) (fun _ _ _ => rfl) (by decide +kernel) ?_
  refine zV_icmp_eq (tgt := 93) (off := 18) (by decide +kernel) (by decide) (fun q => ?_) (fun q => ?_)
  · replace h := zif_pos q h
    clear q
    refine zV_pick (lo2 := [(0, .ref rA)]) [0] rfl ?_
    exact cr_readDesign_93 s0 D X cB cI cJ cD rA sA tA R lv mo ty F tp n    hW  hXX hFr h hQ
  · replace h := zif_neg q h
    clear q
    refine zV_blk (pc' := 79) (lo' := [(0, .ref rA)]) (st' := [.ref rA]) [.aload_n 0] (by decide +kernel) rfl ?_
    refine q_get (idx := 56) (k := 0) (v := .ref sA) hW (by decide) (zT_mem 297 (by decide +kernel) rfl) (fun _ _ _ => rfl) (by decide +kernel) ?_
    refine zV_blk (pc' := 84) (lo' := [(0, .ref rA)]) (st' := [.ref rA, .int 5, .ref sA]) [.iconst 5, .aload_n 0] (by decide +kernel) rfl ?_
    refine q_get (idx := 56) (k := 0) (v := .ref sA) hW (by decide) (zT_mem 297 (by decide +kernel) rfl) (fun _ _ _ => rfl) (by decide +kernel) ?_
    refine q_sget (idx := 78) (k := 0) hW (by decide) (zT_mem 228 (by decide +kernel) rfl) (by decide +kernel) ?_
    obtain ⟨v3, hv3, h⟩ := zbind h
    refine q_cC (idx := 81) (rest := []) hW (cn_fail s0 D cB cI cJ cD sA tA 0 0 F (fun _ => 0) tp (fun _ => 0) (fun _ => 0) 5 (F 0) v3 hv3) oX9_fail rfl (zT_mem 405 (by decide +kernel) rfl) (zT_mem 406 (by decide +kernel) rfl) (zT_mem 407 (by decide +kernel) rfl) rfl rfl (Nat.le_of_ble_eq_true rfl) ⟨by decide, by decide⟩ (by decide +kernel) (fun hm hW hFr2 => ?_)
    replace hFr := hFr.tr hFr2; clear hFr2
    refine zV_eq (st2 := []) rfl rfl rfl rfl ?_
    refine zV_pick (lo2 := [(0, .ref rA)]) [0] rfl ?_
    exact cr_readDesign_93 s0 D X cB cI cJ cD rA sA tA R lv mo ty v3 tp n    hW  hXX hFr h hQ
def r_readDesign_46 (n : Nat) (R : Nat → Int32) (lv : vLaw) (mo : Option vArr) (ty : vTrue) (F : Nat → Int32) (tp : Nat → Int32) : Option ((Option vDes) × (Nat → Int32) × (vLaw) × (Option vArr) × (vTrue) × (Nat → Int32)) := zOm (mo) (zck (zin (1) (1 + 1)) (zck (zin (0) (1 : Int32).toNatClampNeg) ((r_readDesign_67 n R lv (some ((1 : Int32).toNatClampNeg, (upd (fun _ => 0) (0 : Int32).toNatClampNeg (R 2)))) ty F tp  )))) (fun z2 => (r_readDesign_67 n R lv mo ty F tp  ))
set_option maxHeartbeats 4000000 in
set_option maxRecDepth 100000 in
theorem cr_readDesign_46 (s0 : State) (D : va_G) (X : Nat → Prop) (cB cI cJ cD : ClassId) (rA sA tA : Nat) (R : Nat → Int32) (lv : vLaw) (mo : Option vArr) (ty : vTrue) (F : Nat → Int32) (tp : Nat → Int32) (n : Nat) {x : (Option vDes) × (Nat → Int32) × (vLaw) × (Option vArr) × (vTrue) × (Nat → Int32)} {hi0 hi hm0 hm : zHp} {nx : Nat} {Q : Option Value → zHp → zHp → Nat → Prop} (hW : qW X cB cI rA sA tA R lv mo ty F tp hi hm) (hXX : zX hi0 hi) (hFr : lFr X hm0 hm) (h : r_readDesign_46 n R lv mo ty F tp  = some x) (hQ : ∀ r : (Option vDes) × (Nat → Int32) × (vLaw) × (Option vArr) × (vTrue) × (Nat → Int32), x = r → ∀ (v' : Option Value) (hi' hm' : zHp) (nx' : Nat), zX hi0 hi' → zOp (iDes cI hi') v' r.1 → qW X cB cI rA sA tA r.2.1 r.2.2.1 r.2.2.2.1 r.2.2.2.2.1 r.2.2.2.2.2 tp hi' hm' → lFr X hm0 hm' → Q v' hi' hm' nx') : zV s0 D (zty cB cI cJ cD) yX7_readDesign cX7_readDesign 2 (some (.object "LeapDesigner$Design")) 7 154 3 10 46 [(0, .ref rA)] [] hi hm nx Q := by
  unfold r_readDesign_46 at h
  refine zV_blk (pc' := 47) (lo' := [(0, .ref rA)]) (st' := [.ref rA]) [.aload_n 0] (by decide +kernel) rfl ?_
  refine q_getM (idx := 28) hW (zT_mem 302 (by decide +kernel) rfl) (by decide +kernel) (fun hx => ?_) (fun b1 z2 hx ho3 => ?_)
  · replace h := zOm_n hx h
    refine zV_ifnonnull (r := none) (tgt := 67) (off := 17) (by decide +kernel) (by decide) (fun _ q => by cases q) (fun _ => ?_)
    refine zV_blk (pc' := 55) (lo' := [(0, .ref rA)]) (st' := [.int 1, .ref rA]) [.aload_n 0, .iconst 1] (by decide +kernel) rfl ?_
    obtain ⟨hz, h⟩ := zck_some h
    refine qa_new (mc := 2) (ms := 9) 1 hW (zT_mem 155 (by decide +kernel) rfl) hz (by decide) (by decide +kernel) (fun hm2 nx5 hW2 hFr2 => ?_)
    obtain ⟨b4, heb4⟩ : ∃ z : Nat, z = nx := ⟨_, rfl⟩
    rw [← heb4] at hW2 ⊢; clear heb4
    clear hW; have hW := hW2; clear hW2
    replace hFr := hFr.tr hFr2; clear hFr2
    refine zV_blk (pc' := 60) (lo' := [(0, .ref rA)]) (st' := [.ref rA, .int 0, .ref b4, .ref b4, .ref rA]) [.dup, .iconst 0, .aload_n 0] (by decide +kernel) rfl ?_
    refine q_get (idx := 15) (k := 2) (v := .int (R 2)) hW.1 (by decide) (zT_mem 299 (by decide +kernel) rfl) (fun _ _ _ => rfl) (by decide +kernel) ?_
    obtain ⟨hz, h⟩ := zck_some h
    refine qa_st hW hz (by decide +kernel) (fun hm hW hFr2 => ?_)
    replace hFr := hFr.tr hFr2; clear hFr2
    refine qa_fr hW (fun hi2 hm2 hX hW2 hFr2 ho6 => ?_)
    clear hW; have hW := hW2; clear hW2
    replace hXX := hXX.tr hX; clear hX
    replace hFr := hFr.tr hFr2; clear hFr2
    refine q_putM (idx := 28) (z := ((1 : Int32).toNatClampNeg, (upd (fun _ => 0) (0 : Int32).toNatClampNeg (R 2)))) hW ho6 (zT_mem 302 (by decide +kernel) rfl) (by decide +kernel) (fun hm hW hFr2 => ?_)
    replace hFr := hFr.tr hFr2; clear hFr2
    refine zV_pick (lo2 := [(0, .ref rA)]) [0] rfl ?_
    exact cr_readDesign_67 s0 D X cB cI cJ cD rA sA tA R lv (some ((1 : Int32).toNatClampNeg, (upd (fun _ => 0) (0 : Int32).toNatClampNeg (R 2)))) ty F tp n    hW  hXX hFr h hQ
  · replace h := zOm_s hx h
    refine zV_ifnonnull (r := some b1) (tgt := 67) (off := 17) (by decide +kernel) (by decide) (fun _ _ => ?_) (fun q => by cases q)
    refine zV_less (mc' := 2) (ms' := 9) (by decide) (by decide) ?_
    refine zV_pick (lo2 := [(0, .ref rA)]) [0] rfl ?_
    exact cr_readDesign_67 s0 D X cB cI cJ cD rA sA tA R lv mo ty F tp n    hW  hXX hFr h hQ
def r_readDesign_9 (n : Nat) (tp : Nat → Int32) (s : Int32 × (Nat → Int32) × (vLaw) × (Option vArr) × (vTrue) × (Nat → Int32)) : Option ((Int32 × (Nat → Int32) × (vLaw) × (Option vArr) × (vTrue) × (Nat → Int32)) ⊕ ((Option vDes) × (Nat → Int32) × (vLaw) × (Option vArr) × (vTrue) × (Nat → Int32))) := (if (7 : Int32) < (s.1 : Int32) then ((r_readDesign_46 n s.2.1 s.2.2.1 s.2.2.2.1 s.2.2.2.2.1 s.2.2.2.2.2 tp  ).map (fun z => .inr z)) else (if ((s.2.2.2.2.2 3) : Int32) = (0 : Int32) then (if ((s.2.2.2.2.2 1) : Int32) = (5 : Int32) then ((r_readDesign_46 n s.2.1 s.2.2.1 s.2.2.2.1 s.2.2.2.2.1 s.2.2.2.2.2 tp  ).map (fun z => .inr z)) else (r_readStatement n s.2.1 s.2.2.1 s.2.2.2.1 s.2.2.2.2.1 s.2.2.2.2.2 tp).bind (fun v4 => some (.inl ((s.1 + 1), v4.1, v4.2.1, v4.2.2.1, v4.2.2.2.1, v4.2.2.2.2)))) else ((r_readDesign_46 n s.2.1 s.2.2.1 s.2.2.2.1 s.2.2.2.2.1 s.2.2.2.2.2 tp  ).map (fun z => .inr z))))
set_option maxHeartbeats 4000000 in
set_option maxRecDepth 100000 in
theorem cr_readDesign_9 (s0 : State) (D : va_G) (X : Nat → Prop) (cB cI cJ cD : ClassId) (rA sA tA : Nat) (tp : Nat → Int32) (n : Nat) (s : Int32 × (Nat → Int32) × (vLaw) × (Option vArr) × (vTrue) × (Nat → Int32)) {x : (Int32 × (Nat → Int32) × (vLaw) × (Option vArr) × (vTrue) × (Nat → Int32)) ⊕ ((Option vDes) × (Nat → Int32) × (vLaw) × (Option vArr) × (vTrue) × (Nat → Int32))} {hi0 hi hm0 hm : zHp} {nx : Nat} {Q : Option Value → zHp → zHp → Nat → Prop} (hW : qW X cB cI rA sA tA s.2.1 s.2.2.1 s.2.2.2.1 s.2.2.2.2.1 s.2.2.2.2.2 tp hi hm) (hXX : zX hi0 hi) (hFr : lFr X hm0 hm) (mB sB : Nat) (hB : 3 ≤ mB ∧ 10 ≤ sB) (h : r_readDesign_9 n tp  s = some x) (hL9 : ∀ s : Int32 × (Nat → Int32) × (vLaw) × (Option vArr) × (vTrue) × (Nat → Int32), x = (.inl s) → ∀ (hi' hm' : zHp) (nx' : Nat), zX hi0 hi' → qW X cB cI rA sA tA s.2.1 s.2.2.1 s.2.2.2.1 s.2.2.2.2.1 s.2.2.2.2.2 tp hi' hm' → lFr X hm0 hm' → zV s0 D (zty cB cI cJ cD) yX7_readDesign cX7_readDesign 2 (some (.object "LeapDesigner$Design")) 7 154 mB sB 9 [(0, .ref rA), (1, .int s.1)] [] hi' hm' nx' Q) (hQ : ∀ r : (Option vDes) × (Nat → Int32) × (vLaw) × (Option vArr) × (vTrue) × (Nat → Int32), x = (.inr r) → ∀ (v' : Option Value) (hi' hm' : zHp) (nx' : Nat), zX hi0 hi' → zOp (iDes cI hi') v' r.1 → qW X cB cI rA sA tA r.2.1 r.2.2.1 r.2.2.2.1 r.2.2.2.2.1 r.2.2.2.2.2 tp hi' hm' → lFr X hm0 hm' → Q v' hi' hm' nx') : zV s0 D (zty cB cI cJ cD) yX7_readDesign cX7_readDesign 2 (some (.object "LeapDesigner$Design")) 7 154 (mB + 3) (sB + 403) 9 [(0, .ref rA), (1, .int s.1)] [] hi hm nx Q := by
  unfold r_readDesign_9 at h
  refine zV_blk (pc' := 12) (lo' := [(0, .ref rA), (1, .int s.1)]) (st' := [.int 7, .int s.1]) [.iload_n 1, .bipush 7] (by decide +kernel) rfl ?_
  refine zV_icmp_gt (tgt := 46) (off := 34) (by decide +kernel) (by decide) (fun q => ?_) (fun q => ?_)
  · replace h := zif_pos q h
    clear q
    refine zV_less (mc' := 3) (ms' := 10) (by omega) (by omega) ?_
    obtain ⟨z1, h9, hx⟩ := zmap h
    clear h; subst hx; have h := h9; clear h9
    refine zV_pick (lo2 := [(0, .ref rA)]) [0] rfl ?_
    exact cr_readDesign_46 s0 D X cB cI cJ cD rA sA tA s.2.1 s.2.2.1 s.2.2.2.1 s.2.2.2.2.1 s.2.2.2.2.2 tp n    hW  hXX hFr h (fun r hr => hQ r (by rw [hr]))
  · replace h := zif_neg q h
    clear q
    refine zV_blk (pc' := 16) (lo' := [(0, .ref rA), (1, .int s.1)]) (st' := [.ref rA]) [.aload_n 0] (by decide +kernel) rfl ?_
    refine q_get (idx := 56) (k := 0) (v := .ref sA) hW (by decide) (zT_mem 297 (by decide +kernel) rfl) (fun _ _ _ => rfl) (by decide +kernel) ?_
    refine q_sget (idx := 65) (k := 3) hW (by decide) (zT_mem 234 (by decide +kernel) rfl) (by decide +kernel) ?_
    refine zV_if_ne (tgt := 46) (off := 24) (by decide +kernel) (by decide) (fun q => ?_) (fun q => ?_)
    · replace h := zif_neg q h
      clear q
      refine zV_less (mc' := 3) (ms' := 10) (by omega) (by omega) ?_
      obtain ⟨z2, h9, hx⟩ := zmap h
      clear h; subst hx; have h := h9; clear h9
      refine zV_pick (lo2 := [(0, .ref rA)]) [0] rfl ?_
      exact cr_readDesign_46 s0 D X cB cI cJ cD rA sA tA s.2.1 s.2.2.1 s.2.2.2.1 s.2.2.2.2.1 s.2.2.2.2.2 tp n    hW  hXX hFr h (fun r hr => hQ r (by rw [hr]))
    · replace h := zif_pos q h
      clear q
      refine zV_blk (pc' := 26) (lo' := [(0, .ref rA), (1, .int s.1)]) (st' := [.ref rA]) [.aload_n 0] (by decide +kernel) rfl ?_
      refine q_get (idx := 56) (k := 0) (v := .ref sA) hW (by decide) (zT_mem 297 (by decide +kernel) rfl) (fun _ _ _ => rfl) (by decide +kernel) ?_
      refine q_sget (idx := 68) (k := 1) hW (by decide) (zT_mem 230 (by decide +kernel) rfl) (by decide +kernel) ?_
      refine zV_blk (pc' := 33) (lo' := [(0, .ref rA), (1, .int s.1)]) (st' := [.int 5, .int (s.2.2.2.2.2 1)]) [.iconst 5] (by decide +kernel) rfl ?_
      refine zV_icmp_eq (tgt := 46) (off := 13) (by decide +kernel) (by decide) (fun q => ?_) (fun q => ?_)
      · replace h := zif_pos q h
        clear q
        refine zV_less (mc' := 3) (ms' := 10) (by omega) (by omega) ?_
        obtain ⟨z3, h9, hx⟩ := zmap h
        clear h; subst hx; have h := h9; clear h9
        refine zV_pick (lo2 := [(0, .ref rA)]) [0] rfl ?_
        exact cr_readDesign_46 s0 D X cB cI cJ cD rA sA tA s.2.1 s.2.2.1 s.2.2.2.1 s.2.2.2.2.1 s.2.2.2.2.2 tp n    hW  hXX hFr h (fun r hr => hQ r (by rw [hr]))
      · replace h := zif_neg q h
        clear q
        refine zV_blk (pc' := 37) (lo' := [(0, .ref rA), (1, .int s.1)]) (st' := [.ref rA]) [.aload_n 0] (by decide +kernel) rfl ?_
        obtain ⟨v4, hv4, h⟩ := zbind h
        refine zV_less (mc' := (mB + 0) + 3) (ms' := (sB + 0) + 403) (by omega) (by omega) ?_
        refine q_call (mc := (mB + 0)) (ms := (sB + 0)) (idx := 71) (As := []) (rest := []) hW (fun Q2 hQ2 => cr_readStatement s0 D X cB cI cJ cD rA sA tA s.2.1 s.2.2.1 s.2.2.2.1 s.2.2.2.2.1 s.2.2.2.2.2 tp n   v4 hv4 hW  hQ2) oX7_readStatement rfl (zT_mem 345 (by decide +kernel) rfl) (zT_mem 347 (by decide +kernel) rfl) (zT_mem 1 (by decide +kernel) rfl) rfl rfl (Nat.le_of_ble_eq_true rfl) ⟨by decide, by decide⟩ (by decide +kernel) ?_
        intro hi2 hm2 nx5 hX hW2 hFr2
        clear hW; have hW := hW2; clear hW2
        replace hXX := hXX.tr hX; clear hX
        replace hFr := hFr.tr hFr2; clear hFr2
        refine zV_eq (st2 := []) rfl rfl rfl rfl ?_
        refine zV_blk (pc' := 43) (lo' := [(1, .int (s.1 + 1)), (0, .ref rA)]) (st' := []) [.iinc 1 1] (by decide +kernel) rfl ?_
        refine zV_goto (tgt := 9) (off := -34) (by decide +kernel) (by decide) ?_
        obtain rfl := Option.some.inj h
        refine zV_pick (lo2 := [(0, .ref rA), (1, .int (s.1 + 1))]) [1, 0] rfl ?_
        exact hL9 _ rfl _ _ _ hXX hW hFr
theorem cr_readDesign_9L (s0 : State) (D : va_G) (X : Nat → Prop) (cB cI cJ cD : ClassId) (rA sA tA : Nat) (tp : Nat → Int32) (n : Nat) : ∀ (k : Nat) (s : Int32 × (Nat → Int32) × (vLaw) × (Option vArr) × (vTrue) × (Nat → Int32)) {hi0 hi hm0 hm : zHp} {nx : Nat} {Q : Option Value → zHp → zHp → Nat → Prop} (_ : qW X cB cI rA sA tA s.2.1 s.2.2.1 s.2.2.2.1 s.2.2.2.2.1 s.2.2.2.2.2 tp hi hm) (_ : zX hi0 hi) (_ : lFr X hm0 hm) {x : (Option vDes) × (Nat → Int32) × (vLaw) × (Option vArr) × (vTrue) × (Nat → Int32)} (_ : zloop (r_readDesign_9 n tp ) k s = some x) (hQ : ∀ r : (Option vDes) × (Nat → Int32) × (vLaw) × (Option vArr) × (vTrue) × (Nat → Int32), x = r → ∀ (v' : Option Value) (hi' hm' : zHp) (nx' : Nat), zX hi0 hi' → zOp (iDes cI hi') v' r.1 → qW X cB cI rA sA tA r.2.1 r.2.2.1 r.2.2.2.1 r.2.2.2.2.1 r.2.2.2.2.2 tp hi' hm' → lFr X hm0 hm' → Q v' hi' hm' nx'), zV s0 D (zty cB cI cJ cD) yX7_readDesign cX7_readDesign 2 (some (.object "LeapDesigner$Design")) 7 154 (3 * k + 3) (403 * k + 10) 9 [(0, .ref rA), (1, .int s.1)] [] hi hm nx Q
  | 0, s, _, _, _, _, _, _, _, _, _, _, h, _ => by cases h
  | k + 1, s, hi0, hi, hm0, hm, nx, Q, hW, hXX, hFr, x, h, hQ => by
    obtain ⟨z, hz, h1, h2⟩ := zloop_succ h
    refine zV_less (mc' := (3 * k + 3) + 3) (ms' := (403 * k + 10) + 403) (by omega) (by omega) ?_
    exact cr_readDesign_9 s0 D X cB cI cJ cD rA sA tA tp n   s hW  zX.rf hFr (3 * k + 3) (403 * k + 10) ⟨by omega, by omega⟩ hz (fun s' hs hi' hm' nx' hX hW' hFr' => cr_readDesign_9L s0 D X cB cI cJ cD rA sA tA tp n   k s' hW'  (hXX.tr hX) hFr' (h1 s' hs) hQ) (fun r hr v' hi' hm' nx' hX hv hW' hFr' => hQ r (h2 _ hr).symm v' hi' hm' nx' (hXX.tr hX) hv hW' hFr')
def r_readDesign (n : Nat) (R : Nat → Int32) (lv : vLaw) (mo : Option vArr) (ty : vTrue) (F : Nat → Int32) (tp : Nat → Int32) : Option ((Option vDes) × (Nat → Int32) × (vLaw) × (Option vArr) × (vTrue) × (Nat → Int32)) := (n_advance n F tp).bind (fun v1 => (zloop (r_readDesign_9 n tp ) 9 (0, R, lv, mo, ty, v1)))
theorem oX7_readDesign : zO yX7_readDesign cX7_readDesign 2 (some (.object "LeapDesigner$Design")) 0 := ⟨zT_mem 337 (by decide +kernel) rfl, zT_mem 97 (by decide +kernel) rfl, by decide +kernel, by decide +kernel, by decide +kernel⟩
set_option maxHeartbeats 4000000 in
set_option maxRecDepth 100000 in
theorem cr_readDesign (s0 : State) (D : va_G) (X : Nat → Prop) (cB cI cJ cD : ClassId) (rA sA tA : Nat) (R : Nat → Int32) (lv : vLaw) (mo : Option vArr) (ty : vTrue) (F : Nat → Int32) (tp : Nat → Int32) (n : Nat) (x : (Option vDes) × (Nat → Int32) × (vLaw) × (Option vArr) × (vTrue) × (Nat → Int32)) (h : r_readDesign n R lv mo ty F tp  = some x) {hi hm : zHp} {nx : Nat} {Q : Option Value → zHp → zHp → Nat → Prop} (hW : qW X cB cI rA sA tA R lv mo ty F tp hi hm) (hQ0 : ∀ (v' : Option Value) (hi' hm' : zHp) (nx' : Nat), zX hi hi' → zOp (iDes cI hi') v' x.1 → qW X cB cI rA sA tA x.2.1 x.2.2.1 x.2.2.2.1 x.2.2.2.2.1 x.2.2.2.2.2 tp hi' hm' → lFr X hm hm' → Q v' hi' hm' nx') : zM s0 D (zty cB cI cJ cD) yX7_readDesign cX7_readDesign 2 (some (.object "LeapDesigner$Design")) 7 154 30 3637 [.ref rA] hi hm nx Q := by
  have hQ : ∀ r : (Option vDes) × (Nat → Int32) × (vLaw) × (Option vArr) × (vTrue) × (Nat → Int32), x = r → ∀ (v' : Option Value) (hi' hm' : zHp) (nx' : Nat), zX hi hi' → zOp (iDes cI hi') v' r.1 → qW X cB cI rA sA tA r.2.1 r.2.2.1 r.2.2.2.1 r.2.2.2.2.1 r.2.2.2.2.2 tp hi' hm' → lFr X hm hm' → Q v' hi' hm' nx' := fun r hr => by subst hr; exact hQ0
  clear hQ0
  have hXX : zX hi hi := zX.rf
  have hFr : lFr X hm hm := lFr.rf
  refine zM_of (by decide +kernel) (Nat.le_of_ble_eq_true rfl) ?_
  unfold r_readDesign at h
  refine zV_eq (lo2 := [(0, .ref rA)]) rfl rfl rfl rfl ?_
  refine zV_blk (pc' := 1) (lo' := [(0, .ref rA)]) (st' := [.ref rA]) [.aload_n 0] (by decide +kernel) rfl ?_
  refine q_get (idx := 56) (k := 0) (v := .ref sA) hW (by decide) (zT_mem 297 (by decide +kernel) rfl) (fun _ _ _ => rfl) (by decide +kernel) ?_
  obtain ⟨v1, hv1, h⟩ := zbind h
  refine q_cC (idx := 60) (rest := []) hW (cn_advance s0 D cB cI cJ cD sA tA 0 0 F (fun _ => 0) tp (fun _ => 0) (fun _ => 0) n  v1 hv1) oX9_advance rfl (zT_mem 338 (by decide +kernel) rfl) (zT_mem 339 (by decide +kernel) rfl) (zT_mem 340 (by decide +kernel) rfl) rfl rfl (Nat.le_of_ble_eq_true rfl) ⟨by decide, by decide⟩ (by decide +kernel) (fun hm hW hFr2 => ?_)
  replace hFr := hFr.tr hFr2; clear hFr2
  refine zV_eq (st2 := []) rfl rfl rfl rfl ?_
  refine zV_blk (pc' := 9) (lo' := [(1, .int 0), (0, .ref rA)]) (st' := []) [.iconst 0, .istore_n 1] (by decide +kernel) rfl ?_
  refine zV_pick (lo2 := [(0, .ref rA), (1, .int 0)]) [1, 0] rfl ?_
  exact cr_readDesign_9L s0 D X cB cI cJ cD rA sA tA tp n   9 (0, R, lv, mo, ty, v1) hW  hXX hFr h hQ

