def r_readLadder_136 (n : Nat) (lv : vLaw) (F : Nat → Int32) (tp : Nat → Int32) (ar : Nat → Int32) (x2 : Int32) (N1 : Nat) : Option ((vLaw) × (Nat → Int32)) := (k_firstOf n (N1, ar) x2).bind (fun v3 => (k_newLadder v3).bind (fun v7 => some ((.inr (.inr (.inl v7))), F)))
set_option maxHeartbeats 4000000 in
set_option maxRecDepth 100000 in
theorem cr_readLadder_136 (s0 : State) (D : va_G) (X : Nat → Prop) (cB cI cJ cD : ClassId) (rA sA tA : Nat) (R : Nat → Int32) (lv : vLaw) (mo : Option vArr) (ty : vTrue) (F : Nat → Int32) (tp : Nat → Int32) (ar : Nat → Int32) (n : Nat) (x2 : Int32) (N1 : Nat) (a1 : Nat) {x : (vLaw) × (Nat → Int32)} {hi0 hi hm0 hm : zHp} {nx : Nat} {Q : Option Value → zHp → zHp → Nat → Prop} (hW : qA X cB cI rA sA tA R lv mo ty F tp N1 a1 ar hi hm) (hXX : zX hi0 hi) (hFr : lFr X hm0 hm) (h : r_readLadder_136 n lv F tp ar x2 N1 = some x) (hQ : ∀ r : (vLaw) × (Nat → Int32), x = r → ∀ (hi' hm' : zHp) (nx' : Nat), zX hi0 hi' → qW X cB cI rA sA tA R r.1 mo ty r.2 tp hi' hm' → lFr X hm0 hm' → Q none hi' hm' nx') : zV s0 D (zty cB cI cJ cD) yX7_readLadder cX7_readLadder 5 none 5 109 2 16 136 [(0, .ref rA), (1, .ref a1), (2, .int x2)] [] hi hm nx Q := by
  unfold r_readLadder_136 at h
  refine qa_fr hW (fun hi2 hm2 hX hW2 hFr2 ho1 => ?_)
  clear hW; have hW := hW2; clear hW2
  replace hXX := hXX.tr hX; clear hX
  replace hFr := hFr.tr hFr2; clear hFr2
  refine zV_blk (pc' := 137) (lo' := [(0, .ref rA), (1, .ref a1), (2, .int x2)]) (st' := [.ref rA]) [.aload_n 0] (by decide +kernel) rfl ?_
  refine qo_new (mc := 1) (ms := 15) (ci := 5) (idx := 174) (N := 1) (fs := [.null]) tyX5 hW rfl z_in5 tyX5_ok (zT_mem 461 (by decide +kernel) rfl) (zT_mem 462 (by decide +kernel) rfl) (zT_mem 103 (by decide +kernel) rfl) (fun j hj => by cases (show j = 0 by omega); rfl) (by decide +kernel) (fun hm2 nxb2 b2 hO hFr2 => ?_)
  replace hFr := hFr.tr hFr2; clear hFr2
  clear hW; obtain ⟨hW, hcb2, hxb2, hnb2⟩ := hO
  refine zV_blk (pc' := 143) (lo' := [(0, .ref rA), (1, .ref a1), (2, .int x2)]) (st' := [.int x2, .ref a1, .ref b2, .ref b2, .ref rA]) [.dup, .aload_n 1, .iload_n 2] (by decide +kernel) rfl ?_
  obtain ⟨v3, hv3, h⟩ := zbind h
  refine zV_alS (mc := 0) (ms := 0) (fun hi' v' => ∃ a' : Nat, v' = some (.ref a') ∧ iArr cI hi' a' v3) (idx := 176) (rest := [.ref b2, .ref b2, .ref rA]) (fun Q2 hQ2 => ck_firstOf s0 D cB cI cJ cD n (N1, ar) x2 a1 v3 hv3 ho1 (fun a' hi' nx' hX hr => hQ2 _ _ _ hX ⟨a', rfl, hr⟩)) oX7_firstOf (zT_mem 463 (by decide +kernel) rfl) (zT_mem 464 (by decide +kernel) rfl) rfl rfl (Nat.le_of_ble_eq_true rfl) ⟨by decide, by decide⟩ (by decide +kernel) ?_
  rintro _ hi2 nx6 hX ⟨b4, rfl, ho5⟩
  replace ho1 := ho1.mono hX
  replace hW := hW.mono hX
  replace hXX := hXX.tr hX; clear hX
  refine zV_eq (st2 := [.ref b4, .ref b2, .ref b2, .ref rA]) rfl rfl rfl rfl ?_
  obtain ⟨v7, hv7, h⟩ := zbind h
  refine qo_mk (idx := 180) (As := [.ref b4]) (rest := [.ref b2, .ref rA]) (d' := .inr (5, [.ref b4])) ⟨hW, hcb2, hxb2, hnb2⟩ (fun Q2 hQ2 => ck_newLadder s0 D cB cI cJ cD v3 b2 b4 v7 hv7 ho5 hcb2 hQ2) oX5_init rfl (zT_mem 467 (by decide +kernel) rfl) (zT_mem 468 (by decide +kernel) rfl) rfl rfl (Nat.le_of_ble_eq_true rfl) ⟨by decide, by decide⟩ (by decide +kernel) (fun hi2 hm2 hX hW2 hFr2 hc8 => ?_)
  clear hcb2 hxb2 hnb2
  replace hFr := hFr.tr hFr2; clear hFr2
  clear hW; have hW := hW2; clear hW2
  replace ho1 := ho1.mono hX
  replace ho5 := ho5.mono hX
  replace hXX := hXX.tr hX; clear hX
  have eq10 : v7 = v3 := by have hv := hv7; unfold k_newLadder at hv; first | (cases hv; rfl) | (obtain ⟨w, hw, hv⟩ := zbind hv; cases hv; rfl)
  have ho9 : iLadder cI hi2 b2 v7 := ⟨b4, hc8, (by rw [eq10]; exact ho5)⟩
  refine q_putL (idx := 24) (z := (.inr (.inr (.inl v7)))) hW ho9 (zT_mem 301 (by decide +kernel) rfl) (by decide +kernel) (fun hm hW hFr2 => ?_)
  replace hFr := hFr.tr hFr2; clear hFr2
  obtain rfl := Option.some.inj h
  exact zV_vret rfl (by decide +kernel) (hQ _ rfl _ _ _ hXX hW hFr)
def r_readLadder_130 (n : Nat) (lv : vLaw) (F : Nat → Int32) (tp : Nat → Int32) (ar : Nat → Int32) (x2 : Int32) (N1 : Nat) : Option ((Int32 × (Nat → Int32) × (Nat → Int32)) ⊕ ((vLaw) × (Nat → Int32))) := some (.inl ((x2 + 1), F, ar))
set_option maxHeartbeats 4000000 in
set_option maxRecDepth 100000 in
theorem cr_readLadder_130 (s0 : State) (D : va_G) (X : Nat → Prop) (cB cI cJ cD : ClassId) (rA sA tA : Nat) (R : Nat → Int32) (lv : vLaw) (mo : Option vArr) (ty : vTrue) (F : Nat → Int32) (tp : Nat → Int32) (ar : Nat → Int32) (n : Nat) (x2 : Int32) (N1 : Nat) (a1 : Nat) {x : (Int32 × (Nat → Int32) × (Nat → Int32)) ⊕ ((vLaw) × (Nat → Int32))} {hi0 hi hm0 hm : zHp} {nx : Nat} {Q : Option Value → zHp → zHp → Nat → Prop} (hW : qA X cB cI rA sA tA R lv mo ty F tp N1 a1 ar hi hm) (hXX : zX hi0 hi) (hFr : lFr X hm0 hm) (h : r_readLadder_130 n lv F tp ar x2 N1 = some x) (hL21 : ∀ s : Int32 × (Nat → Int32) × (Nat → Int32), x = (.inl s) → ∀ (hi' hm' : zHp) (nx' : Nat), zX hi0 hi' → qA X cB cI rA sA tA R lv mo ty s.2.1 tp N1 a1 s.2.2 hi' hm' → lFr X hm0 hm' → zV s0 D (zty cB cI cJ cD) yX7_readLadder cX7_readLadder 5 none 5 109 2 16 21 [(0, .ref rA), (1, .ref a1), (2, .int s.1)] [] hi' hm' nx' Q) (hQ : ∀ r : (vLaw) × (Nat → Int32), x = (.inr r) → ∀ (hi' hm' : zHp) (nx' : Nat), zX hi0 hi' → qW X cB cI rA sA tA R r.1 mo ty r.2 tp hi' hm' → lFr X hm0 hm' → Q none hi' hm' nx') : zV s0 D (zty cB cI cJ cD) yX7_readLadder cX7_readLadder 5 none 5 109 2 16 130 [(0, .ref rA), (1, .ref a1), (2, .int x2)] [] hi hm nx Q := by
  unfold r_readLadder_130 at h
  refine zV_blk (pc' := 133) (lo' := [(2, .int (x2 + 1)), (0, .ref rA), (1, .ref a1)]) (st' := []) [.iinc 2 1] (by decide +kernel) rfl ?_
  refine zV_goto (tgt := 21) (off := -112) (by decide +kernel) (by decide) ?_
  obtain rfl := Option.some.inj h
  refine zV_pick (lo2 := [(0, .ref rA), (1, .ref a1), (2, .int (x2 + 1))]) [1, 2, 0] rfl ?_
  exact hL21 _ rfl _ _ _ hXX hW hFr
def r_readLadder_107 (n : Nat) (lv : vLaw) (F : Nat → Int32) (tp : Nat → Int32) (ar : Nat → Int32) (x2 : Int32) (x3 : Int32) (x4 : Int32) (N1 : Nat) : Option ((Int32 × (Nat → Int32) × (Nat → Int32)) ⊕ ((vLaw) × (Nat → Int32))) := (if (6 : Int32) ≤ (x2 : Int32) then (n_fail F 4 x3).bind (fun v1 => (r_readLadder_130 n lv v1 tp ar x2 N1 )) else zck (zin (x2) N1) ((r_readLadder_130 n lv F tp (upd ar (x2 : Int32).toNatClampNeg x4) x2 N1 )))
set_option maxHeartbeats 4000000 in
set_option maxRecDepth 100000 in
theorem cr_readLadder_107 (s0 : State) (D : va_G) (X : Nat → Prop) (cB cI cJ cD : ClassId) (rA sA tA : Nat) (R : Nat → Int32) (lv : vLaw) (mo : Option vArr) (ty : vTrue) (F : Nat → Int32) (tp : Nat → Int32) (ar : Nat → Int32) (n : Nat) (x2 : Int32) (x3 : Int32) (x4 : Int32) (N1 : Nat) (a1 : Nat) {x : (Int32 × (Nat → Int32) × (Nat → Int32)) ⊕ ((vLaw) × (Nat → Int32))} {hi0 hi hm0 hm : zHp} {nx : Nat} {Q : Option Value → zHp → zHp → Nat → Prop} (hW : qA X cB cI rA sA tA R lv mo ty F tp N1 a1 ar hi hm) (hXX : zX hi0 hi) (hFr : lFr X hm0 hm) (h : r_readLadder_107 n lv F tp ar x2 x3 x4 N1 = some x) (hL21 : ∀ s : Int32 × (Nat → Int32) × (Nat → Int32), x = (.inl s) → ∀ (hi' hm' : zHp) (nx' : Nat), zX hi0 hi' → qA X cB cI rA sA tA R lv mo ty s.2.1 tp N1 a1 s.2.2 hi' hm' → lFr X hm0 hm' → zV s0 D (zty cB cI cJ cD) yX7_readLadder cX7_readLadder 5 none 5 109 2 16 21 [(0, .ref rA), (1, .ref a1), (2, .int s.1)] [] hi' hm' nx' Q) (hQ : ∀ r : (vLaw) × (Nat → Int32), x = (.inr r) → ∀ (hi' hm' : zHp) (nx' : Nat), zX hi0 hi' → qW X cB cI rA sA tA R r.1 mo ty r.2 tp hi' hm' → lFr X hm0 hm' → Q none hi' hm' nx') : zV s0 D (zty cB cI cJ cD) yX7_readLadder cX7_readLadder 5 none 5 109 2 16 107 [(0, .ref rA), (1, .ref a1), (2, .int x2), (3, .int x3), (4, .int x4)] [] hi hm nx Q := by
  unfold r_readLadder_107 at h
  refine zV_blk (pc' := 110) (lo' := [(0, .ref rA), (1, .ref a1), (2, .int x2), (3, .int x3), (4, .int x4)]) (st' := [.int 6, .int x2]) [.iload_n 2, .bipush 6] (by decide +kernel) rfl ?_
  refine zV_icmp_ge (tgt := 121) (off := 11) (by decide +kernel) (by decide) (fun q => ?_) (fun q => ?_)
  · replace h := zif_pos q h
    clear q
    refine zV_blk (pc' := 122) (lo' := [(0, .ref rA), (1, .ref a1), (2, .int x2), (3, .int x3), (4, .int x4)]) (st' := [.ref rA]) [.aload_n 0] (by decide +kernel) rfl ?_
    refine q_get (idx := 56) (k := 0) (v := .ref sA) hW.1 (by decide) (zT_mem 297 (by decide +kernel) rfl) (fun _ _ _ => rfl) (by decide +kernel) ?_
    refine zV_blk (pc' := 127) (lo' := [(0, .ref rA), (1, .ref a1), (2, .int x2), (3, .int x3), (4, .int x4)]) (st' := [.int x3, .int 4, .ref sA]) [.iconst 4, .iload_n 3] (by decide +kernel) rfl ?_
    obtain ⟨v1, hv1, h⟩ := zbind h
    refine qa_cC (idx := 81) (rest := []) hW (cn_fail s0 D cB cI cJ cD sA tA 0 0 F (fun _ => 0) tp (fun _ => 0) (fun _ => 0) 4 x3 v1 hv1) oX9_fail rfl (zT_mem 405 (by decide +kernel) rfl) (zT_mem 406 (by decide +kernel) rfl) (zT_mem 407 (by decide +kernel) rfl) rfl rfl (Nat.le_of_ble_eq_true rfl) ⟨by decide, by decide⟩ (by decide +kernel) (fun hm hW hFr2 => ?_)
    replace hFr := hFr.tr hFr2; clear hFr2
    refine zV_eq (st2 := []) rfl rfl rfl rfl ?_
    refine zV_pick (lo2 := [(0, .ref rA), (1, .ref a1), (2, .int x2)]) [0, 1, 2] rfl ?_
    exact cr_readLadder_130 s0 D X cB cI cJ cD rA sA tA R lv mo ty v1 tp ar n x2 N1   a1 hW  hXX hFr h hL21 hQ
  · replace h := zif_neg q h
    clear q
    refine zV_blk (pc' := 117) (lo' := [(0, .ref rA), (1, .ref a1), (2, .int x2), (3, .int x3), (4, .int x4)]) (st' := [.int x4, .int x2, .ref a1]) [.aload_n 1, .iload_n 2, .iload 4] (by decide +kernel) rfl ?_
    obtain ⟨hz, h⟩ := zck_some h
    refine qa_st hW hz (by decide +kernel) (fun hm hW hFr2 => ?_)
    replace hFr := hFr.tr hFr2; clear hFr2
    refine zV_goto (tgt := 130) (off := 12) (by decide +kernel) (by decide) ?_
    refine zV_pick (lo2 := [(0, .ref rA), (1, .ref a1), (2, .int x2)]) [0, 1, 2] rfl ?_
    exact cr_readLadder_130 s0 D X cB cI cJ cD rA sA tA R lv mo ty F tp (upd ar (x2 : Int32).toNatClampNeg x4) n x2 N1   a1 hW  hXX hFr h hL21 hQ
def r_readLadder_21 (n : Nat) (lv : vLaw) (tp : Nat → Int32) (N1 : Nat) (s : Int32 × (Nat → Int32) × (Nat → Int32)) : Option ((Int32 × (Nat → Int32) × (Nat → Int32)) ⊕ ((vLaw) × (Nat → Int32))) := (if (6 : Int32) < (s.1 : Int32) then ((r_readLadder_136 n lv s.2.1 tp s.2.2 s.1 N1 ).map (fun z => .inr z)) else zck (decide (¬ (2 : Int32) = 0)) ((if ((s.1 - s.1 / 2 * 2) : Int32) = (1 : Int32) then (n_sees 3 (fun j => L_not.getD j 0) n s.2.1 tp).bind (fun v12 => (if v12 = true then (n_advance n s.2.1 tp).bind (fun v14 => zck (zin ((s.1 - 1)) N1) ((n_takeNumber n v14 tp ((s.2.2 ((s.1 - 1) : Int32).toNatClampNeg) + 1) 9999).bind (fun v15 => zck (zin ((s.1 - 1)) N1) ((k_isMultiple v15.1 (s.2.2 ((s.1 - 1) : Int32).toNatClampNeg)).bind (fun v16 => (if v16 = true then (r_readLadder_107 n lv v15.2 tp s.2.2 s.1 (v14 2) v15.1 N1 ) else (n_fail v15.2 2 (v14 2)).bind (fun v17 => (r_readLadder_107 n lv v17 tp s.2.2 s.1 (v14 2) v15.1 N1 )))))))) else ((r_readLadder_136 n lv s.2.1 tp s.2.2 s.1 N1 ).map (fun z => .inr z)))) else (n_sees 3 (fun j => L_but.getD j 0) n s.2.1 tp).bind (fun v4 => (if v4 = true then (n_advance n s.2.1 tp).bind (fun v6 => zck (zin ((s.1 - 1)) N1) ((n_takeNumber n v6 tp ((s.2.2 ((s.1 - 1) : Int32).toNatClampNeg) + 1) 9999).bind (fun v7 => zck (zin ((s.1 - 1)) N1) ((k_isMultiple v7.1 (s.2.2 ((s.1 - 1) : Int32).toNatClampNeg)).bind (fun v8 => (if v8 = true then (r_readLadder_107 n lv v7.2 tp s.2.2 s.1 (v6 2) v7.1 N1 ) else (n_fail v7.2 2 (v6 2)).bind (fun v9 => (r_readLadder_107 n lv v9 tp s.2.2 s.1 (v6 2) v7.1 N1 )))))))) else ((r_readLadder_136 n lv s.2.1 tp s.2.2 s.1 N1 ).map (fun z => .inr z)))))))
set_option maxHeartbeats 4000000 in
set_option maxRecDepth 100000 in
theorem cr_readLadder_21 (s0 : State) (D : va_G) (X : Nat → Prop) (cB cI cJ cD : ClassId) (rA sA tA : Nat) (R : Nat → Int32) (lv : vLaw) (mo : Option vArr) (ty : vTrue) (tp : Nat → Int32) (n : Nat) (N1 : Nat) (a1 : Nat) (s : Int32 × (Nat → Int32) × (Nat → Int32)) {x : (Int32 × (Nat → Int32) × (Nat → Int32)) ⊕ ((vLaw) × (Nat → Int32))} {hi0 hi hm0 hm : zHp} {nx : Nat} {Q : Option Value → zHp → zHp → Nat → Prop} (hW : qA X cB cI rA sA tA R lv mo ty s.2.1 tp N1 a1 s.2.2 hi hm) (hXX : zX hi0 hi) (hFr : lFr X hm0 hm) (h : r_readLadder_21 n lv tp N1 s = some x) (hL21 : ∀ s : Int32 × (Nat → Int32) × (Nat → Int32), x = (.inl s) → ∀ (hi' hm' : zHp) (nx' : Nat), zX hi0 hi' → qA X cB cI rA sA tA R lv mo ty s.2.1 tp N1 a1 s.2.2 hi' hm' → lFr X hm0 hm' → zV s0 D (zty cB cI cJ cD) yX7_readLadder cX7_readLadder 5 none 5 109 2 16 21 [(0, .ref rA), (1, .ref a1), (2, .int s.1)] [] hi' hm' nx' Q) (hQ : ∀ r : (vLaw) × (Nat → Int32), x = (.inr r) → ∀ (hi' hm' : zHp) (nx' : Nat), zX hi0 hi' → qW X cB cI rA sA tA R r.1 mo ty r.2 tp hi' hm' → lFr X hm0 hm' → Q none hi' hm' nx') : zV s0 D (zty cB cI cJ cD) yX7_readLadder cX7_readLadder 5 none 5 109 2 16 21 [(0, .ref rA), (1, .ref a1), (2, .int s.1)] [] hi hm nx Q := by
  unfold r_readLadder_21 at h
  refine zV_blk (pc' := 24) (lo' := [(0, .ref rA), (1, .ref a1), (2, .int s.1)]) (st' := [.int 6, .int s.1]) [.iload_n 2, .bipush 6] (by decide +kernel) rfl ?_
  refine zV_icmp_gt (tgt := 136) (off := 112) (by decide +kernel) (by decide) (fun q => ?_) (fun q => ?_)
  · replace h := zif_pos q h
    clear q
    obtain ⟨z1, h9, hx⟩ := zmap h
    clear h; subst hx; have h := h9; clear h9
    refine zV_pick (lo2 := [(0, .ref rA), (1, .ref a1), (2, .int s.1)]) [0, 1, 2] rfl ?_
    exact cr_readLadder_136 s0 D X cB cI cJ cD rA sA tA R lv mo ty s.2.1 tp s.2.2 n s.1 N1   a1 hW  hXX hFr h (fun r hr => hQ r (by rw [hr]))
  · replace h := zif_neg q h
    clear q
    refine zV_blk (pc' := 28) (lo' := [(0, .ref rA), (1, .ref a1), (2, .int s.1)]) (st' := [.ref rA]) [.aload_n 0] (by decide +kernel) rfl ?_
    refine q_get (idx := 56) (k := 0) (v := .ref sA) hW.1 (by decide) (zT_mem 297 (by decide +kernel) rfl) (fun _ _ _ => rfl) (by decide +kernel) ?_
    refine zV_blk (pc' := 33) (lo' := [(0, .ref rA), (1, .ref a1), (2, .int s.1)]) (st' := [.int 2, .int s.1, .ref sA]) [.iload_n 2, .iconst 2] (by decide +kernel) rfl ?_
    obtain ⟨hz, h⟩ := zck_some h
    refine zV_irem (by decide +kernel) (of_decide_eq_true hz) ?_
    refine zV_blk (pc' := 35) (lo' := [(0, .ref rA), (1, .ref a1), (2, .int s.1)]) (st' := [.int 1, .int (s.1 - s.1 / 2 * 2), .ref sA]) [.iconst 1] (by decide +kernel) rfl ?_
    refine zV_icmp_ne (tgt := 43) (off := 8) (by decide +kernel) (by decide) (fun q => ?_) (fun q => ?_)
    · replace h := zif_neg q h
      clear q
      refine zl_RX7_168 rfl (by decide +kernel) (fun b2 hw3 => ?_)
      obtain ⟨v4, hv4, h⟩ := zbind h
      refine q_cR (idx := 140) (rest := []) hW.1 (cn_sees b2 3 (fun j => L_but.getD j 0) hw3 D cB cI cJ cD sA tA 0 0 s.2.1 (fun _ => 0) tp (fun _ => 0) (fun _ => 0) n v4 hv4) oX9_sees rfl (zT_mem 354 (by decide +kernel) rfl) (zT_mem 355 (by decide +kernel) rfl) (zT_mem 356 (by decide +kernel) rfl) rfl rfl (Nat.le_of_ble_eq_true rfl) ⟨by decide, by decide⟩ (by decide +kernel) ?_
      refine zV_eq (st2 := [.int (zb v4)]) rfl rfl rfl rfl ?_
      refine zV_bif_eq (tgt := 136) (off := 88) (by decide +kernel) (by decide) (fun q => ?_) (fun q => ?_)
      · replace h := zif_neg q h
        clear q
        obtain ⟨z5, h9, hx⟩ := zmap h
        clear h; subst hx; have h := h9; clear h9
        refine zV_pick (lo2 := [(0, .ref rA), (1, .ref a1), (2, .int s.1)]) [0, 1, 2] rfl ?_
        exact cr_readLadder_136 s0 D X cB cI cJ cD rA sA tA R lv mo ty s.2.1 tp s.2.2 n s.1 N1   a1 hW  hXX hFr h (fun r hr => hQ r (by rw [hr]))
      · replace h := zif_pos q h
        clear q
        refine zV_blk (pc' := 52) (lo' := [(0, .ref rA), (1, .ref a1), (2, .int s.1)]) (st' := [.ref rA]) [.aload_n 0] (by decide +kernel) rfl ?_
        refine q_get (idx := 56) (k := 0) (v := .ref sA) hW.1 (by decide) (zT_mem 297 (by decide +kernel) rfl) (fun _ _ _ => rfl) (by decide +kernel) ?_
        obtain ⟨v6, hv6, h⟩ := zbind h
        refine qa_cC (idx := 60) (rest := []) hW (cn_advance s0 D cB cI cJ cD sA tA 0 0 s.2.1 (fun _ => 0) tp (fun _ => 0) (fun _ => 0) n  v6 hv6) oX9_advance rfl (zT_mem 338 (by decide +kernel) rfl) (zT_mem 339 (by decide +kernel) rfl) (zT_mem 340 (by decide +kernel) rfl) rfl rfl (Nat.le_of_ble_eq_true rfl) ⟨by decide, by decide⟩ (by decide +kernel) (fun hm hW hFr2 => ?_)
        replace hFr := hFr.tr hFr2; clear hFr2
        refine zV_eq (st2 := []) rfl rfl rfl rfl ?_
        refine zV_blk (pc' := 59) (lo' := [(0, .ref rA), (1, .ref a1), (2, .int s.1)]) (st' := [.ref rA]) [.aload_n 0] (by decide +kernel) rfl ?_
        refine q_get (idx := 56) (k := 0) (v := .ref sA) hW.1 (by decide) (zT_mem 297 (by decide +kernel) rfl) (fun _ _ _ => rfl) (by decide +kernel) ?_
        refine q_sget (idx := 159) (k := 2) hW.1 (by decide) (zT_mem 232 (by decide +kernel) rfl) (by decide +kernel) ?_
        refine zV_blk (pc' := 67) (lo' := [(3, .int (v6 2)), (0, .ref rA), (1, .ref a1), (2, .int s.1)]) (st' := [.ref rA]) [.istore_n 3, .aload_n 0] (by decide +kernel) rfl ?_
        refine q_get (idx := 56) (k := 0) (v := .ref sA) hW.1 (by decide) (zT_mem 297 (by decide +kernel) rfl) (fun _ _ _ => rfl) (by decide +kernel) ?_
        refine zV_blk (pc' := 74) (lo' := [(3, .int (v6 2)), (0, .ref rA), (1, .ref a1), (2, .int s.1)]) (st' := [.int (s.1 - 1), .ref a1, .ref sA]) [.aload_n 1, .iload_n 2, .iconst 1, .isub] (by decide +kernel) rfl ?_
        obtain ⟨hz, h⟩ := zck_some h
        refine qa_ld hW hz (by decide +kernel) ?_
        refine zV_blk (pc' := 80) (lo' := [(3, .int (v6 2)), (0, .ref rA), (1, .ref a1), (2, .int s.1)]) (st' := [.int 9999, .int ((s.2.2 ((s.1 - 1) : Int32).toNatClampNeg) + 1), .ref sA]) [.iconst 1, .iadd, .sipush 9999] (by decide +kernel) rfl ?_
        obtain ⟨v7, hv7, h⟩ := zbind h
        refine qa_cC (idx := 100) (rest := []) hW (cn_takeNumber s0 D cB cI cJ cD sA tA 0 0 v6 (fun _ => 0) tp (fun _ => 0) (fun _ => 0) n ((s.2.2 ((s.1 - 1) : Int32).toNatClampNeg) + 1) 9999 v7 hv7) oX9_takeNumber rfl (zT_mem 409 (by decide +kernel) rfl) (zT_mem 410 (by decide +kernel) rfl) (zT_mem 411 (by decide +kernel) rfl) rfl rfl (Nat.le_of_ble_eq_true rfl) ⟨by decide, by decide⟩ (by decide +kernel) (fun hm hW hFr2 => ?_)
        replace hFr := hFr.tr hFr2; clear hFr2
        refine zV_eq (st2 := [.int v7.1]) rfl rfl rfl rfl ?_
        refine zV_blk (pc' := 91) (lo' := [(4, .int v7.1), (3, .int (v6 2)), (0, .ref rA), (1, .ref a1), (2, .int s.1)]) (st' := [.int (s.1 - 1), .ref a1, .int v7.1]) [.istore 4, .iload 4, .aload_n 1, .iload_n 2, .iconst 1, .isub] (by decide +kernel) rfl ?_
        obtain ⟨hz, h⟩ := zck_some h
        refine qa_ld hW hz (by decide +kernel) ?_
        obtain ⟨v8, hv8, h⟩ := zbind h
        refine zV_roS (idx := 170) (rest := []) (fun Q2 hQ2 => ck_isMultiple s0 D cB cI cJ cD v7.1 (s.2.2 ((s.1 - 1) : Int32).toNatClampNeg)  v8 hv8  hQ2) oX7_isMultiple (zT_mem 458 (by decide +kernel) rfl) (zT_mem 459 (by decide +kernel) rfl) rfl rfl (Nat.le_of_ble_eq_true rfl) ⟨by decide, by decide⟩ (by decide +kernel) ?_
        refine zV_eq (st2 := [.int (zb v8)]) rfl rfl rfl rfl ?_
        refine zV_bif_ne (tgt := 107) (off := 12) (by decide +kernel) (by decide) (fun q => ?_) (fun q => ?_)
        · replace h := zif_pos q h
          clear q
          refine zV_pick (lo2 := [(0, .ref rA), (1, .ref a1), (2, .int s.1), (3, .int (v6 2)), (4, .int v7.1)]) [2, 3, 4, 1, 0] rfl ?_
          exact cr_readLadder_107 s0 D X cB cI cJ cD rA sA tA R lv mo ty v7.2 tp s.2.2 n s.1 (v6 2) v7.1 N1   a1 hW  hXX hFr h hL21 hQ
        · replace h := zif_neg q h
          clear q
          refine zV_blk (pc' := 99) (lo' := [(4, .int v7.1), (3, .int (v6 2)), (0, .ref rA), (1, .ref a1), (2, .int s.1)]) (st' := [.ref rA]) [.aload_n 0] (by decide +kernel) rfl ?_
          refine q_get (idx := 56) (k := 0) (v := .ref sA) hW.1 (by decide) (zT_mem 297 (by decide +kernel) rfl) (fun _ _ _ => rfl) (by decide +kernel) ?_
          refine zV_blk (pc' := 104) (lo' := [(4, .int v7.1), (3, .int (v6 2)), (0, .ref rA), (1, .ref a1), (2, .int s.1)]) (st' := [.int (v6 2), .int 2, .ref sA]) [.iconst 2, .iload_n 3] (by decide +kernel) rfl ?_
          obtain ⟨v9, hv9, h⟩ := zbind h
          refine qa_cC (idx := 81) (rest := []) hW (cn_fail s0 D cB cI cJ cD sA tA 0 0 v7.2 (fun _ => 0) tp (fun _ => 0) (fun _ => 0) 2 (v6 2) v9 hv9) oX9_fail rfl (zT_mem 405 (by decide +kernel) rfl) (zT_mem 406 (by decide +kernel) rfl) (zT_mem 407 (by decide +kernel) rfl) rfl rfl (Nat.le_of_ble_eq_true rfl) ⟨by decide, by decide⟩ (by decide +kernel) (fun hm hW hFr2 => ?_)
          replace hFr := hFr.tr hFr2; clear hFr2
          refine zV_eq (st2 := []) rfl rfl rfl rfl ?_
          refine zV_pick (lo2 := [(0, .ref rA), (1, .ref a1), (2, .int s.1), (3, .int (v6 2)), (4, .int v7.1)]) [2, 3, 4, 1, 0] rfl ?_
          exact cr_readLadder_107 s0 D X cB cI cJ cD rA sA tA R lv mo ty v9 tp s.2.2 n s.1 (v6 2) v7.1 N1   a1 hW  hXX hFr h hL21 hQ
    · replace h := zif_pos q h
      clear q
      refine zl_RX7_166 rfl (by decide +kernel) (fun b10 hw11 => ?_)
      refine zV_goto (tgt := 45) (off := 5) (by decide +kernel) (by decide) ?_
      obtain ⟨v12, hv12, h⟩ := zbind h
      refine q_cR (idx := 140) (rest := []) hW.1 (cn_sees b10 3 (fun j => L_not.getD j 0) hw11 D cB cI cJ cD sA tA 0 0 s.2.1 (fun _ => 0) tp (fun _ => 0) (fun _ => 0) n v12 hv12) oX9_sees rfl (zT_mem 354 (by decide +kernel) rfl) (zT_mem 355 (by decide +kernel) rfl) (zT_mem 356 (by decide +kernel) rfl) rfl rfl (Nat.le_of_ble_eq_true rfl) ⟨by decide, by decide⟩ (by decide +kernel) ?_
      refine zV_eq (st2 := [.int (zb v12)]) rfl rfl rfl rfl ?_
      refine zV_bif_eq (tgt := 136) (off := 88) (by decide +kernel) (by decide) (fun q => ?_) (fun q => ?_)
      · replace h := zif_neg q h
        clear q
        obtain ⟨z13, h9, hx⟩ := zmap h
        clear h; subst hx; have h := h9; clear h9
        refine zV_pick (lo2 := [(0, .ref rA), (1, .ref a1), (2, .int s.1)]) [0, 1, 2] rfl ?_
        exact cr_readLadder_136 s0 D X cB cI cJ cD rA sA tA R lv mo ty s.2.1 tp s.2.2 n s.1 N1   a1 hW  hXX hFr h (fun r hr => hQ r (by rw [hr]))
      · replace h := zif_pos q h
        clear q
        refine zV_blk (pc' := 52) (lo' := [(0, .ref rA), (1, .ref a1), (2, .int s.1)]) (st' := [.ref rA]) [.aload_n 0] (by decide +kernel) rfl ?_
        refine q_get (idx := 56) (k := 0) (v := .ref sA) hW.1 (by decide) (zT_mem 297 (by decide +kernel) rfl) (fun _ _ _ => rfl) (by decide +kernel) ?_
        obtain ⟨v14, hv14, h⟩ := zbind h
        refine qa_cC (idx := 60) (rest := []) hW (cn_advance s0 D cB cI cJ cD sA tA 0 0 s.2.1 (fun _ => 0) tp (fun _ => 0) (fun _ => 0) n  v14 hv14) oX9_advance rfl (zT_mem 338 (by decide +kernel) rfl) (zT_mem 339 (by decide +kernel) rfl) (zT_mem 340 (by decide +kernel) rfl) rfl rfl (Nat.le_of_ble_eq_true rfl) ⟨by decide, by decide⟩ (by decide +kernel) (fun hm hW hFr2 => ?_)
        replace hFr := hFr.tr hFr2; clear hFr2
        refine zV_eq (st2 := []) rfl rfl rfl rfl ?_
        refine zV_blk (pc' := 59) (lo' := [(0, .ref rA), (1, .ref a1), (2, .int s.1)]) (st' := [.ref rA]) [.aload_n 0] (by decide +kernel) rfl ?_
        refine q_get (idx := 56) (k := 0) (v := .ref sA) hW.1 (by decide) (zT_mem 297 (by decide +kernel) rfl) (fun _ _ _ => rfl) (by decide +kernel) ?_
        refine q_sget (idx := 159) (k := 2) hW.1 (by decide) (zT_mem 232 (by decide +kernel) rfl) (by decide +kernel) ?_
        refine zV_blk (pc' := 67) (lo' := [(3, .int (v14 2)), (0, .ref rA), (1, .ref a1), (2, .int s.1)]) (st' := [.ref rA]) [.istore_n 3, .aload_n 0] (by decide +kernel) rfl ?_
        refine q_get (idx := 56) (k := 0) (v := .ref sA) hW.1 (by decide) (zT_mem 297 (by decide +kernel) rfl) (fun _ _ _ => rfl) (by decide +kernel) ?_
        refine zV_blk (pc' := 74) (lo' := [(3, .int (v14 2)), (0, .ref rA), (1, .ref a1), (2, .int s.1)]) (st' := [.int (s.1 - 1), .ref a1, .ref sA]) [.aload_n 1, .iload_n 2, .iconst 1, .isub] (by decide +kernel) rfl ?_
        obtain ⟨hz, h⟩ := zck_some h
        refine qa_ld hW hz (by decide +kernel) ?_
        refine zV_blk (pc' := 80) (lo' := [(3, .int (v14 2)), (0, .ref rA), (1, .ref a1), (2, .int s.1)]) (st' := [.int 9999, .int ((s.2.2 ((s.1 - 1) : Int32).toNatClampNeg) + 1), .ref sA]) [.iconst 1, .iadd, .sipush 9999] (by decide +kernel) rfl ?_
        obtain ⟨v15, hv15, h⟩ := zbind h
        refine qa_cC (idx := 100) (rest := []) hW (cn_takeNumber s0 D cB cI cJ cD sA tA 0 0 v14 (fun _ => 0) tp (fun _ => 0) (fun _ => 0) n ((s.2.2 ((s.1 - 1) : Int32).toNatClampNeg) + 1) 9999 v15 hv15) oX9_takeNumber rfl (zT_mem 409 (by decide +kernel) rfl) (zT_mem 410 (by decide +kernel) rfl) (zT_mem 411 (by decide +kernel) rfl) rfl rfl (Nat.le_of_ble_eq_true rfl) ⟨by decide, by decide⟩ (by decide +kernel) (fun hm hW hFr2 => ?_)
        replace hFr := hFr.tr hFr2; clear hFr2
        refine zV_eq (st2 := [.int v15.1]) rfl rfl rfl rfl ?_
        refine zV_blk (pc' := 91) (lo' := [(4, .int v15.1), (3, .int (v14 2)), (0, .ref rA), (1, .ref a1), (2, .int s.1)]) (st' := [.int (s.1 - 1), .ref a1, .int v15.1]) [.istore 4, .iload 4, .aload_n 1, .iload_n 2, .iconst 1, .isub] (by decide +kernel) rfl ?_
        obtain ⟨hz, h⟩ := zck_some h
        refine qa_ld hW hz (by decide +kernel) ?_
        obtain ⟨v16, hv16, h⟩ := zbind h
        refine zV_roS (idx := 170) (rest := []) (fun Q2 hQ2 => ck_isMultiple s0 D cB cI cJ cD v15.1 (s.2.2 ((s.1 - 1) : Int32).toNatClampNeg)  v16 hv16  hQ2) oX7_isMultiple (zT_mem 458 (by decide +kernel) rfl) (zT_mem 459 (by decide +kernel) rfl) rfl rfl (Nat.le_of_ble_eq_true rfl) ⟨by decide, by decide⟩ (by decide +kernel) ?_
        refine zV_eq (st2 := [.int (zb v16)]) rfl rfl rfl rfl ?_
        refine zV_bif_ne (tgt := 107) (off := 12) (by decide +kernel) (by decide) (fun q => ?_) (fun q => ?_)
        · replace h := zif_pos q h
          clear q
          refine zV_pick (lo2 := [(0, .ref rA), (1, .ref a1), (2, .int s.1), (3, .int (v14 2)), (4, .int v15.1)]) [2, 3, 4, 1, 0] rfl ?_
          exact cr_readLadder_107 s0 D X cB cI cJ cD rA sA tA R lv mo ty v15.2 tp s.2.2 n s.1 (v14 2) v15.1 N1   a1 hW  hXX hFr h hL21 hQ
        · replace h := zif_neg q h
          clear q
          refine zV_blk (pc' := 99) (lo' := [(4, .int v15.1), (3, .int (v14 2)), (0, .ref rA), (1, .ref a1), (2, .int s.1)]) (st' := [.ref rA]) [.aload_n 0] (by decide +kernel) rfl ?_
          refine q_get (idx := 56) (k := 0) (v := .ref sA) hW.1 (by decide) (zT_mem 297 (by decide +kernel) rfl) (fun _ _ _ => rfl) (by decide +kernel) ?_
          refine zV_blk (pc' := 104) (lo' := [(4, .int v15.1), (3, .int (v14 2)), (0, .ref rA), (1, .ref a1), (2, .int s.1)]) (st' := [.int (v14 2), .int 2, .ref sA]) [.iconst 2, .iload_n 3] (by decide +kernel) rfl ?_
          obtain ⟨v17, hv17, h⟩ := zbind h
          refine qa_cC (idx := 81) (rest := []) hW (cn_fail s0 D cB cI cJ cD sA tA 0 0 v15.2 (fun _ => 0) tp (fun _ => 0) (fun _ => 0) 2 (v14 2) v17 hv17) oX9_fail rfl (zT_mem 405 (by decide +kernel) rfl) (zT_mem 406 (by decide +kernel) rfl) (zT_mem 407 (by decide +kernel) rfl) rfl rfl (Nat.le_of_ble_eq_true rfl) ⟨by decide, by decide⟩ (by decide +kernel) (fun hm hW hFr2 => ?_)
          replace hFr := hFr.tr hFr2; clear hFr2
          refine zV_eq (st2 := []) rfl rfl rfl rfl ?_
          refine zV_pick (lo2 := [(0, .ref rA), (1, .ref a1), (2, .int s.1), (3, .int (v14 2)), (4, .int v15.1)]) [2, 3, 4, 1, 0] rfl ?_
          exact cr_readLadder_107 s0 D X cB cI cJ cD rA sA tA R lv mo ty v17 tp s.2.2 n s.1 (v14 2) v15.1 N1   a1 hW  hXX hFr h hL21 hQ
theorem cr_readLadder_21L (s0 : State) (D : va_G) (X : Nat → Prop) (cB cI cJ cD : ClassId) (rA sA tA : Nat) (R : Nat → Int32) (lv : vLaw) (mo : Option vArr) (ty : vTrue) (tp : Nat → Int32) (n : Nat) (N1 : Nat) (a1 : Nat) : ∀ (k : Nat) (s : Int32 × (Nat → Int32) × (Nat → Int32)) {hi0 hi hm0 hm : zHp} {nx : Nat} {Q : Option Value → zHp → zHp → Nat → Prop} (_ : qA X cB cI rA sA tA R lv mo ty s.2.1 tp N1 a1 s.2.2 hi hm) (_ : zX hi0 hi) (_ : lFr X hm0 hm) {x : (vLaw) × (Nat → Int32)} (_ : zloop (r_readLadder_21 n lv tp N1) k s = some x) (hQ : ∀ r : (vLaw) × (Nat → Int32), x = r → ∀ (hi' hm' : zHp) (nx' : Nat), zX hi0 hi' → qW X cB cI rA sA tA R r.1 mo ty r.2 tp hi' hm' → lFr X hm0 hm' → Q none hi' hm' nx'), zV s0 D (zty cB cI cJ cD) yX7_readLadder cX7_readLadder 5 none 5 109 2 16 21 [(0, .ref rA), (1, .ref a1), (2, .int s.1)] [] hi hm nx Q
  | 0, s, _, _, _, _, _, _, _, _, _, _, h, _ => by cases h
  | k + 1, s, hi0, hi, hm0, hm, nx, Q, hW, hXX, hFr, x, h, hQ => by
    obtain ⟨z, hz, h1, h2⟩ := zloop_succ h
    exact cr_readLadder_21 s0 D X cB cI cJ cD rA sA tA R lv mo ty tp n N1 a1 s hW  zX.rf hFr hz (fun s' hs hi' hm' nx' hX hW' hFr' => cr_readLadder_21L s0 D X cB cI cJ cD rA sA tA R lv mo ty tp n N1 a1 k s' hW'  (hXX.tr hX) hFr' (h1 s' hs) hQ) (fun r hr hi' hm' nx' hX hW' hFr' => hQ r (h2 _ hr).symm hi' hm' nx' (hXX.tr hX) hW' hFr')
def r_readLadder (n : Nat) (lv : vLaw) (F : Nat → Int32) (tp : Nat → Int32) : Option ((vLaw) × (Nat → Int32)) := zck (zin (6) (6 + 1)) ((n_takeNumber n F tp 1 9999).bind (fun v3 => zck (zin (0) (6 : Int32).toNatClampNeg) ((zloop (r_readLadder_21 n lv tp  (6 : Int32).toNatClampNeg) n (1, v3.2, (upd (fun _ => 0) (0 : Int32).toNatClampNeg v3.1))))))
theorem oX7_readLadder : zO yX7_readLadder cX7_readLadder 5 none 0 := ⟨zT_mem 455 (by decide +kernel) rfl, zT_mem 97 (by decide +kernel) rfl, by decide +kernel, by decide +kernel, by decide +kernel⟩
set_option maxHeartbeats 4000000 in
set_option maxRecDepth 100000 in
theorem cr_readLadder (s0 : State) (D : va_G) (X : Nat → Prop) (cB cI cJ cD : ClassId) (rA sA tA : Nat) (R : Nat → Int32) (lv : vLaw) (mo : Option vArr) (ty : vTrue) (F : Nat → Int32) (tp : Nat → Int32) (n : Nat) (x : (vLaw) × (Nat → Int32)) (h : r_readLadder n lv F tp  = some x) {hi hm : zHp} {nx : Nat} {Q : Option Value → zHp → zHp → Nat → Prop} (hW : qW X cB cI rA sA tA R lv mo ty F tp hi hm) (hQ0 : ∀ (hi' hm' : zHp) (nx' : Nat), zX hi hi' → qW X cB cI rA sA tA R x.1 mo ty x.2 tp hi' hm' → lFr X hm hm' → Q none hi' hm' nx') : zM s0 D (zty cB cI cJ cD) yX7_readLadder cX7_readLadder 5 none 5 109 3 22 [.ref rA] hi hm nx Q := by
  have hQ : ∀ r : (vLaw) × (Nat → Int32), x = r → ∀ (hi' hm' : zHp) (nx' : Nat), zX hi hi' → qW X cB cI rA sA tA R r.1 mo ty r.2 tp hi' hm' → lFr X hm hm' → Q none hi' hm' nx' := fun r hr => by subst hr; exact hQ0
  clear hQ0
  have hXX : zX hi hi := zX.rf
  have hFr : lFr X hm hm := lFr.rf
  refine zM_of (by decide +kernel) (Nat.le_of_ble_eq_true rfl) ?_
  unfold r_readLadder at h
  refine zV_eq (lo2 := [(0, .ref rA)]) rfl rfl rfl rfl ?_
  refine zV_blk (pc' := 2) (lo' := [(0, .ref rA)]) (st' := [.int 6]) [.bipush 6] (by decide +kernel) rfl ?_
  obtain ⟨hz, h⟩ := zck_some h
  refine qa_new (mc := 2) (ms := 16) 6 hW (zT_mem 155 (by decide +kernel) rfl) hz (by decide) (by decide +kernel) (fun hm2 nx2 hW2 hFr2 => ?_)
  obtain ⟨b1, heb1⟩ : ∃ z : Nat, z = nx := ⟨_, rfl⟩
  rw [← heb1] at hW2 ⊢; clear heb1
  clear hW; have hW := hW2; clear hW2
  replace hFr := hFr.tr hFr2; clear hFr2
  refine zV_blk (pc' := 8) (lo' := [(1, .ref b1), (0, .ref rA)]) (st' := [.ref rA, .int 0, .ref b1]) [.astore_n 1, .aload_n 1, .iconst 0, .aload_n 0] (by decide +kernel) rfl ?_
  refine q_get (idx := 56) (k := 0) (v := .ref sA) hW.1 (by decide) (zT_mem 297 (by decide +kernel) rfl) (fun _ _ _ => rfl) (by decide +kernel) ?_
  refine zV_blk (pc' := 15) (lo' := [(1, .ref b1), (0, .ref rA)]) (st' := [.int 9999, .int 1, .ref sA, .int 0, .ref b1]) [.iconst 1, .sipush 9999] (by decide +kernel) rfl ?_
  obtain ⟨v3, hv3, h⟩ := zbind h
  refine qa_cC (idx := 100) (rest := [.int 0, .ref b1]) hW (cn_takeNumber s0 D cB cI cJ cD sA tA 0 0 F (fun _ => 0) tp (fun _ => 0) (fun _ => 0) n 1 9999 v3 hv3) oX9_takeNumber rfl (zT_mem 409 (by decide +kernel) rfl) (zT_mem 410 (by decide +kernel) rfl) (zT_mem 411 (by decide +kernel) rfl) rfl rfl (Nat.le_of_ble_eq_true rfl) ⟨by decide, by decide⟩ (by decide +kernel) (fun hm hW hFr2 => ?_)
  replace hFr := hFr.tr hFr2; clear hFr2
  refine zV_eq (st2 := [.int v3.1, .int 0, .ref b1]) rfl rfl rfl rfl ?_
  obtain ⟨hz, h⟩ := zck_some h
  refine qa_st hW hz (by decide +kernel) (fun hm hW hFr2 => ?_)
  replace hFr := hFr.tr hFr2; clear hFr2
  refine zV_blk (pc' := 21) (lo' := [(2, .int 1), (1, .ref b1), (0, .ref rA)]) (st' := []) [.iconst 1, .istore_n 2] (by decide +kernel) rfl ?_
  refine zV_pick (lo2 := [(0, .ref rA), (1, .ref b1), (2, .int 1)]) [2, 1, 0] rfl ?_
  exact cr_readLadder_21L s0 D X cB cI cJ cD rA sA tA R lv mo ty tp n  (6 : Int32).toNatClampNeg  b1 n (1, v3.2, (upd (fun _ => 0) (0 : Int32).toNatClampNeg v3.1)) hW  hXX hFr h hQ

def r_readRow_76 (n : Nat) (lv : vLaw) (F : Nat → Int32) (tp : Nat → Int32) (x1 : Int32) (N2 : Nat) (s : Int32 × (Nat → Int32)) : Option ((Int32 × (Nat → Int32)) ⊕ ((vLaw) × (Nat → Int32))) := (if (x1 : Int32) < (s.1 : Int32) then (k_newRow (N2, s.2)).bind (fun v3 => some (.inr ((.inr (.inr (.inr v3))), F))) else zck (zin (s.1) N2) (zck (zin ((s.1 - 1)) N2) (zck (zin (s.1) N2) (some (.inl ((s.1 + 1), (upd s.2 (s.1 : Int32).toNatClampNeg ((s.2 (s.1 : Int32).toNatClampNeg) + (s.2 ((s.1 - 1) : Int32).toNatClampNeg)))))))))
set_option maxHeartbeats 4000000 in
set_option maxRecDepth 100000 in
theorem cr_readRow_76 (s0 : State) (D : va_G) (X : Nat → Prop) (cB cI cJ cD : ClassId) (rA sA tA : Nat) (R : Nat → Int32) (lv : vLaw) (mo : Option vArr) (ty : vTrue) (F : Nat → Int32) (tp : Nat → Int32) (n : Nat) (x1 : Int32) (N2 : Nat) (a2 : Nat) (s : Int32 × (Nat → Int32)) {x : (Int32 × (Nat → Int32)) ⊕ ((vLaw) × (Nat → Int32))} {hi0 hi hm0 hm : zHp} {nx : Nat} {Q : Option Value → zHp → zHp → Nat → Prop} (hW : qA X cB cI rA sA tA R lv mo ty F tp N2 a2 s.2 hi hm) (hXX : zX hi0 hi) (hFr : lFr X hm0 hm) (h : r_readRow_76 n lv F tp x1 N2 s = some x) (hL76 : ∀ s : Int32 × (Nat → Int32), x = (.inl s) → ∀ (hi' hm' : zHp) (nx' : Nat), zX hi0 hi' → qA X cB cI rA sA tA R lv mo ty F tp N2 a2 s.2 hi' hm' → lFr X hm0 hm' → zV s0 D (zty cB cI cJ cD) yX7_readRow cX7_readRow 6 none 3 67 1 2 76 [(0, .ref rA), (1, .int x1), (2, .ref a2), (4, .int s.1)] [] hi' hm' nx' Q) (hQ : ∀ r : (vLaw) × (Nat → Int32), x = (.inr r) → ∀ (hi' hm' : zHp) (nx' : Nat), zX hi0 hi' → qW X cB cI rA sA tA R r.1 mo ty r.2 tp hi' hm' → lFr X hm0 hm' → Q none hi' hm' nx') : zV s0 D (zty cB cI cJ cD) yX7_readRow cX7_readRow 6 none 3 67 1 2 76 [(0, .ref rA), (1, .int x1), (2, .ref a2), (4, .int s.1)] [] hi hm nx Q := by
  unfold r_readRow_76 at h
  refine zV_blk (pc' := 79) (lo' := [(0, .ref rA), (1, .int x1), (2, .ref a2), (4, .int s.1)]) (st' := [.int x1, .int s.1]) [.iload 4, .iload_n 1] (by decide +kernel) rfl ?_
  refine zV_icmp_gt (tgt := 101) (off := 22) (by decide +kernel) (by decide) (fun q => ?_) (fun q => ?_)
  · replace h := zif_pos q h
    clear q
    refine qa_fr hW (fun hi2 hm2 hX hW2 hFr2 ho1 => ?_)
    clear hW; have hW := hW2; clear hW2
    replace hXX := hXX.tr hX; clear hX
    replace hFr := hFr.tr hFr2; clear hFr2
    refine zV_blk (pc' := 102) (lo' := [(0, .ref rA), (1, .int x1), (2, .ref a2), (4, .int s.1)]) (st' := [.ref rA]) [.aload_n 0] (by decide +kernel) rfl ?_
    refine qo_new (mc := 0) (ms := 0) (ci := 8) (idx := 188) (N := 2) (fs := [.null, .int 0]) tyX8 hW rfl z_in8 tyX8_ok (zT_mem 480 (by decide +kernel) rfl) (zT_mem 481 (by decide +kernel) rfl) (zT_mem 104 (by decide +kernel) rfl) (fun j hj => by rcases (show j = 0 ∨ j = 1 by omega) with rfl | rfl <;> rfl) (by decide +kernel) (fun hm2 nxb2 b2 hO hFr2 => ?_)
    replace hFr := hFr.tr hFr2; clear hFr2
    clear hW; obtain ⟨hW, hcb2, hxb2, hnb2⟩ := hO
    refine zV_blk (pc' := 107) (lo' := [(0, .ref rA), (1, .int x1), (2, .ref a2), (4, .int s.1)]) (st' := [.ref a2, .ref b2, .ref b2, .ref rA]) [.dup, .aload_n 2] (by decide +kernel) rfl ?_
    obtain ⟨v3, hv3, h⟩ := zbind h
    refine qo_mk (idx := 190) (As := [.ref a2]) (rest := [.ref b2, .ref rA]) (d' := .inr (8, [.ref a2, .int v3.2])) ⟨hW, hcb2, hxb2, hnb2⟩ (fun Q2 hQ2 => ck_newRow s0 D cB cI cJ cD (N2, s.2) b2 a2 v3 hv3 ho1 hcb2 hQ2) oX8_init rfl (zT_mem 482 (by decide +kernel) rfl) (zT_mem 483 (by decide +kernel) rfl) rfl rfl (Nat.le_of_ble_eq_true rfl) ⟨by decide, by decide⟩ (by decide +kernel) (fun hi2 hm2 hX hW2 hFr2 hc4 => ?_)
    clear hcb2 hxb2 hnb2
    replace hFr := hFr.tr hFr2; clear hFr2
    clear hW; have hW := hW2; clear hW2
    replace ho1 := ho1.mono hX
    replace hXX := hXX.tr hX; clear hX
    have eq6 : v3.1 = (N2, s.2) := by have hv := hv3; unfold k_newRow at hv; first | (cases hv; rfl) | (obtain ⟨w, hw, hv⟩ := zbind hv; cases hv; rfl)
    have ho5 : iRow cI hi2 b2 v3 := ⟨a2, hc4, (by rw [eq6]; exact ho1)⟩
    refine q_putL (idx := 24) (z := (.inr (.inr (.inr v3)))) hW ho5 (zT_mem 301 (by decide +kernel) rfl) (by decide +kernel) (fun hm hW hFr2 => ?_)
    replace hFr := hFr.tr hFr2; clear hFr2
    obtain rfl := Option.some.inj h
    exact zV_vret rfl (by decide +kernel) (hQ _ rfl _ _ _ hXX hW hFr)
  · replace h := zif_neg q h
    clear q
    refine zV_blk (pc' := 86) (lo' := [(0, .ref rA), (1, .int x1), (2, .ref a2), (4, .int s.1)]) (st' := [.int s.1, .ref a2, .int s.1, .ref a2]) [.aload_n 2, .iload 4, .dup2] (by decide +kernel) rfl ?_
    obtain ⟨hz, h⟩ := zck_some h
    refine qa_ld hW hz (by decide +kernel) ?_
    refine zV_blk (pc' := 92) (lo' := [(0, .ref rA), (1, .int x1), (2, .ref a2), (4, .int s.1)]) (st' := [.int (s.1 - 1), .ref a2, .int (s.2 (s.1 : Int32).toNatClampNeg), .int s.1, .ref a2]) [.aload_n 2, .iload 4, .iconst 1, .isub] (by decide +kernel) rfl ?_
    obtain ⟨hz, h⟩ := zck_some h
    refine qa_ld hW hz (by decide +kernel) ?_
    refine zV_blk (pc' := 94) (lo' := [(0, .ref rA), (1, .int x1), (2, .ref a2), (4, .int s.1)]) (st' := [.int ((s.2 (s.1 : Int32).toNatClampNeg) + (s.2 ((s.1 - 1) : Int32).toNatClampNeg)), .int s.1, .ref a2]) [.iadd] (by decide +kernel) rfl ?_
    obtain ⟨hz, h⟩ := zck_some h
    refine qa_st hW hz (by decide +kernel) (fun hm hW hFr2 => ?_)
    replace hFr := hFr.tr hFr2; clear hFr2
    refine zV_blk (pc' := 98) (lo' := [(4, .int (s.1 + 1)), (0, .ref rA), (1, .int x1), (2, .ref a2)]) (st' := []) [.iinc 4 1] (by decide +kernel) rfl ?_
    refine zV_goto (tgt := 76) (off := -22) (by decide +kernel) (by decide) ?_
    obtain rfl := Option.some.inj h
    refine zV_pick (lo2 := [(0, .ref rA), (1, .int x1), (2, .ref a2), (4, .int (s.1 + 1))]) [1, 2, 3, 0] rfl ?_
    exact hL76 _ rfl _ _ _ hXX hW hFr
theorem cr_readRow_76L (s0 : State) (D : va_G) (X : Nat → Prop) (cB cI cJ cD : ClassId) (rA sA tA : Nat) (R : Nat → Int32) (lv : vLaw) (mo : Option vArr) (ty : vTrue) (F : Nat → Int32) (tp : Nat → Int32) (n : Nat) (x1 : Int32) (N2 : Nat) (a2 : Nat) : ∀ (k : Nat) (s : Int32 × (Nat → Int32)) {hi0 hi hm0 hm : zHp} {nx : Nat} {Q : Option Value → zHp → zHp → Nat → Prop} (_ : qA X cB cI rA sA tA R lv mo ty F tp N2 a2 s.2 hi hm) (_ : zX hi0 hi) (_ : lFr X hm0 hm) {x : (vLaw) × (Nat → Int32)} (_ : zloop (r_readRow_76 n lv F tp x1 N2) k s = some x) (hQ : ∀ r : (vLaw) × (Nat → Int32), x = r → ∀ (hi' hm' : zHp) (nx' : Nat), zX hi0 hi' → qW X cB cI rA sA tA R r.1 mo ty r.2 tp hi' hm' → lFr X hm0 hm' → Q none hi' hm' nx'), zV s0 D (zty cB cI cJ cD) yX7_readRow cX7_readRow 6 none 3 67 1 2 76 [(0, .ref rA), (1, .int x1), (2, .ref a2), (4, .int s.1)] [] hi hm nx Q
  | 0, s, _, _, _, _, _, _, _, _, _, _, h, _ => by cases h
  | k + 1, s, hi0, hi, hm0, hm, nx, Q, hW, hXX, hFr, x, h, hQ => by
    obtain ⟨z, hz, h1, h2⟩ := zloop_succ h
    exact cr_readRow_76 s0 D X cB cI cJ cD rA sA tA R lv mo ty F tp n x1 N2 a2 s hW  zX.rf hFr hz (fun s' hs hi' hm' nx' hX hW' hFr' => cr_readRow_76L s0 D X cB cI cJ cD rA sA tA R lv mo ty F tp n x1 N2 a2 k s' hW'  (hXX.tr hX) hFr' (h1 s' hs) hQ) (fun r hr hi' hm' nx' hX hW' hFr' => hQ r (h2 _ hr).symm hi' hm' nx' (hXX.tr hX) hW' hFr')
def r_readRow_73 (n : Nat) (lv : vLaw) (F : Nat → Int32) (tp : Nat → Int32) (ar : Nat → Int32) (x1 : Int32) (N2 : Nat) : Option ((vLaw) × (Nat → Int32)) := (zloop (r_readRow_76 n lv F tp x1 N2) n (1, ar))
set_option maxHeartbeats 4000000 in
set_option maxRecDepth 100000 in
theorem cr_readRow_73 (s0 : State) (D : va_G) (X : Nat → Prop) (cB cI cJ cD : ClassId) (rA sA tA : Nat) (R : Nat → Int32) (lv : vLaw) (mo : Option vArr) (ty : vTrue) (F : Nat → Int32) (tp : Nat → Int32) (ar : Nat → Int32) (n : Nat) (x1 : Int32) (N2 : Nat) (a2 : Nat) {x : (vLaw) × (Nat → Int32)} {hi0 hi hm0 hm : zHp} {nx : Nat} {Q : Option Value → zHp → zHp → Nat → Prop} (hW : qA X cB cI rA sA tA R lv mo ty F tp N2 a2 ar hi hm) (hXX : zX hi0 hi) (hFr : lFr X hm0 hm) (h : r_readRow_73 n lv F tp ar x1 N2 = some x) (hQ : ∀ r : (vLaw) × (Nat → Int32), x = r → ∀ (hi' hm' : zHp) (nx' : Nat), zX hi0 hi' → qW X cB cI rA sA tA R r.1 mo ty r.2 tp hi' hm' → lFr X hm0 hm' → Q none hi' hm' nx') : zV s0 D (zty cB cI cJ cD) yX7_readRow cX7_readRow 6 none 3 67 1 2 73 [(0, .ref rA), (1, .int x1), (2, .ref a2)] [] hi hm nx Q := by
  unfold r_readRow_73 at h
  refine zV_blk (pc' := 76) (lo' := [(4, .int 1), (0, .ref rA), (1, .int x1), (2, .ref a2)]) (st' := []) [.iconst 1, .istore 4] (by decide +kernel) rfl ?_
  refine zV_pick (lo2 := [(0, .ref rA), (1, .int x1), (2, .ref a2), (4, .int 1)]) [1, 2, 3, 0] rfl ?_
  exact cr_readRow_76L s0 D X cB cI cJ cD rA sA tA R lv mo ty F tp n x1 N2  a2 n (1, ar) hW  hXX hFr h hQ
def r_readRow_67 (n : Nat) (lv : vLaw) (F : Nat → Int32) (tp : Nat → Int32) (ar : Nat → Int32) (x1 : Int32) (x3 : Int32) (x4 : Int32) (N2 : Nat) : Option ((Int32 × Int32 × (Nat → Int32) × (Nat → Int32)) ⊕ ((vLaw) × (Nat → Int32))) := some (.inl (x3, (x4 + 1), F, ar))
set_option maxHeartbeats 4000000 in
set_option maxRecDepth 100000 in
theorem cr_readRow_67 (s0 : State) (D : va_G) (X : Nat → Prop) (cB cI cJ cD : ClassId) (rA sA tA : Nat) (R : Nat → Int32) (lv : vLaw) (mo : Option vArr) (ty : vTrue) (F : Nat → Int32) (tp : Nat → Int32) (ar : Nat → Int32) (n : Nat) (x1 : Int32) (x3 : Int32) (x4 : Int32) (N2 : Nat) (a2 : Nat) {x : (Int32 × Int32 × (Nat → Int32) × (Nat → Int32)) ⊕ ((vLaw) × (Nat → Int32))} {hi0 hi hm0 hm : zHp} {nx : Nat} {Q : Option Value → zHp → zHp → Nat → Prop} (hW : qA X cB cI rA sA tA R lv mo ty F tp N2 a2 ar hi hm) (hXX : zX hi0 hi) (hFr : lFr X hm0 hm) (h : r_readRow_67 n lv F tp ar x1 x3 x4 N2 = some x) (hL23 : ∀ s : Int32 × Int32 × (Nat → Int32) × (Nat → Int32), x = (.inl s) → ∀ (hi' hm' : zHp) (nx' : Nat), zX hi0 hi' → qA X cB cI rA sA tA R lv mo ty s.2.2.1 tp N2 a2 s.2.2.2 hi' hm' → lFr X hm0 hm' → zV s0 D (zty cB cI cJ cD) yX7_readRow cX7_readRow 6 none 3 67 1 2 23 [(0, .ref rA), (1, .int x1), (2, .ref a2), (3, .int s.1), (4, .int s.2.1)] [] hi' hm' nx' Q) (hQ : ∀ r : (vLaw) × (Nat → Int32), x = (.inr r) → ∀ (hi' hm' : zHp) (nx' : Nat), zX hi0 hi' → qW X cB cI rA sA tA R r.1 mo ty r.2 tp hi' hm' → lFr X hm0 hm' → Q none hi' hm' nx') : zV s0 D (zty cB cI cJ cD) yX7_readRow cX7_readRow 6 none 3 67 1 2 67 [(0, .ref rA), (1, .int x1), (2, .ref a2), (3, .int x3), (4, .int x4)] [] hi hm nx Q := by
  unfold r_readRow_67 at h
  refine zV_blk (pc' := 70) (lo' := [(4, .int (x4 + 1)), (0, .ref rA), (1, .int x1), (2, .ref a2), (3, .int x3)]) (st' := []) [.iinc 4 1] (by decide +kernel) rfl ?_
  refine zV_goto (tgt := 23) (off := -47) (by decide +kernel) (by decide) ?_
  obtain rfl := Option.some.inj h
  refine zV_pick (lo2 := [(0, .ref rA), (1, .int x1), (2, .ref a2), (3, .int x3), (4, .int (x4 + 1))]) [1, 2, 3, 4, 0] rfl ?_
  exact hL23 _ rfl _ _ _ hXX hW hFr
def r_readRow_23 (n : Nat) (lv : vLaw) (tp : Nat → Int32) (x1 : Int32) (N2 : Nat) (s : Int32 × Int32 × (Nat → Int32) × (Nat → Int32)) : Option ((Int32 × Int32 × (Nat → Int32) × (Nat → Int32)) ⊕ ((vLaw) × (Nat → Int32))) := (if (x1 : Int32) < (s.2.1 : Int32) then ((r_readRow_73 n lv s.2.2.1 tp s.2.2.2 x1 N2 ).map (fun z => .inr z)) else (if ((s.2.2.1 1) : Int32) = (3 : Int32) then (n_takeNumber n s.2.2.1 tp s.1 (x1 - 1)).bind (fun v3 => (if (x1 : Int32) < ((v3.1 + 1) : Int32) then (r_readRow_67 n lv v3.2 tp s.2.2.2 x1 (v3.1 + 1) s.2.1 N2 ) else zck (zin ((v3.1 + 1)) N2) ((r_readRow_67 n lv v3.2 tp (upd s.2.2.2 ((v3.1 + 1) : Int32).toNatClampNeg 1) x1 (v3.1 + 1) s.2.1 N2 )))) else ((r_readRow_73 n lv s.2.2.1 tp s.2.2.2 x1 N2 ).map (fun z => .inr z))))
set_option maxHeartbeats 4000000 in
set_option maxRecDepth 100000 in
theorem cr_readRow_23 (s0 : State) (D : va_G) (X : Nat → Prop) (cB cI cJ cD : ClassId) (rA sA tA : Nat) (R : Nat → Int32) (lv : vLaw) (mo : Option vArr) (ty : vTrue) (tp : Nat → Int32) (n : Nat) (x1 : Int32) (N2 : Nat) (a2 : Nat) (s : Int32 × Int32 × (Nat → Int32) × (Nat → Int32)) {x : (Int32 × Int32 × (Nat → Int32) × (Nat → Int32)) ⊕ ((vLaw) × (Nat → Int32))} {hi0 hi hm0 hm : zHp} {nx : Nat} {Q : Option Value → zHp → zHp → Nat → Prop} (hW : qA X cB cI rA sA tA R lv mo ty s.2.2.1 tp N2 a2 s.2.2.2 hi hm) (hXX : zX hi0 hi) (hFr : lFr X hm0 hm) (h : r_readRow_23 n lv tp x1 N2 s = some x) (hL23 : ∀ s : Int32 × Int32 × (Nat → Int32) × (Nat → Int32), x = (.inl s) → ∀ (hi' hm' : zHp) (nx' : Nat), zX hi0 hi' → qA X cB cI rA sA tA R lv mo ty s.2.2.1 tp N2 a2 s.2.2.2 hi' hm' → lFr X hm0 hm' → zV s0 D (zty cB cI cJ cD) yX7_readRow cX7_readRow 6 none 3 67 1 2 23 [(0, .ref rA), (1, .int x1), (2, .ref a2), (3, .int s.1), (4, .int s.2.1)] [] hi' hm' nx' Q) (hQ : ∀ r : (vLaw) × (Nat → Int32), x = (.inr r) → ∀ (hi' hm' : zHp) (nx' : Nat), zX hi0 hi' → qW X cB cI rA sA tA R r.1 mo ty r.2 tp hi' hm' → lFr X hm0 hm' → Q none hi' hm' nx') : zV s0 D (zty cB cI cJ cD) yX7_readRow cX7_readRow 6 none 3 67 1 2 23 [(0, .ref rA), (1, .int x1), (2, .ref a2), (3, .int s.1), (4, .int s.2.1)] [] hi hm nx Q := by
  unfold r_readRow_23 at h
  refine zV_blk (pc' := 26) (lo' := [(0, .ref rA), (1, .int x1), (2, .ref a2), (3, .int s.1), (4, .int s.2.1)]) (st' := [.int x1, .int s.2.1]) [.iload 4, .iload_n 1] (by decide +kernel) rfl ?_
  refine zV_icmp_gt (tgt := 73) (off := 47) (by decide +kernel) (by decide) (fun q => ?_) (fun q => ?_)
  · replace h := zif_pos q h
    clear q
    obtain ⟨z1, h9, hx⟩ := zmap h
    clear h; subst hx; have h := h9; clear h9
    refine zV_pick (lo2 := [(0, .ref rA), (1, .int x1), (2, .ref a2)]) [0, 1, 2] rfl ?_
    exact cr_readRow_73 s0 D X cB cI cJ cD rA sA tA R lv mo ty s.2.2.1 tp s.2.2.2 n x1 N2   a2 hW  hXX hFr h (fun r hr => hQ r (by rw [hr]))
  · replace h := zif_neg q h
    clear q
    refine zV_blk (pc' := 30) (lo' := [(0, .ref rA), (1, .int x1), (2, .ref a2), (3, .int s.1), (4, .int s.2.1)]) (st' := [.ref rA]) [.aload_n 0] (by decide +kernel) rfl ?_
    refine q_get (idx := 56) (k := 0) (v := .ref sA) hW.1 (by decide) (zT_mem 297 (by decide +kernel) rfl) (fun _ _ _ => rfl) (by decide +kernel) ?_
    refine q_sget (idx := 68) (k := 1) hW.1 (by decide) (zT_mem 230 (by decide +kernel) rfl) (by decide +kernel) ?_
    refine zV_blk (pc' := 37) (lo' := [(0, .ref rA), (1, .int x1), (2, .ref a2), (3, .int s.1), (4, .int s.2.1)]) (st' := [.int 3, .int (s.2.2.1 1)]) [.iconst 3] (by decide +kernel) rfl ?_
    refine zV_icmp_ne (tgt := 73) (off := 36) (by decide +kernel) (by decide) (fun q => ?_) (fun q => ?_)
    · replace h := zif_neg q h
      clear q
      obtain ⟨z2, h9, hx⟩ := zmap h
      clear h; subst hx; have h := h9; clear h9
      refine zV_pick (lo2 := [(0, .ref rA), (1, .int x1), (2, .ref a2)]) [0, 1, 2] rfl ?_
      exact cr_readRow_73 s0 D X cB cI cJ cD rA sA tA R lv mo ty s.2.2.1 tp s.2.2.2 n x1 N2   a2 hW  hXX hFr h (fun r hr => hQ r (by rw [hr]))
    · replace h := zif_pos q h
      clear q
      refine zV_blk (pc' := 41) (lo' := [(0, .ref rA), (1, .int x1), (2, .ref a2), (3, .int s.1), (4, .int s.2.1)]) (st' := [.ref rA]) [.aload_n 0] (by decide +kernel) rfl ?_
      refine q_get (idx := 56) (k := 0) (v := .ref sA) hW.1 (by decide) (zT_mem 297 (by decide +kernel) rfl) (fun _ _ _ => rfl) (by decide +kernel) ?_
      refine zV_blk (pc' := 48) (lo' := [(0, .ref rA), (1, .int x1), (2, .ref a2), (3, .int s.1), (4, .int s.2.1)]) (st' := [.int (x1 - 1), .int s.1, .ref sA]) [.iload_n 3, .iload_n 1, .iconst 1, .isub] (by decide +kernel) rfl ?_
      obtain ⟨v3, hv3, h⟩ := zbind h
      refine qa_cC (idx := 100) (rest := []) hW (cn_takeNumber s0 D cB cI cJ cD sA tA 0 0 s.2.2.1 (fun _ => 0) tp (fun _ => 0) (fun _ => 0) n s.1 (x1 - 1) v3 hv3) oX9_takeNumber rfl (zT_mem 409 (by decide +kernel) rfl) (zT_mem 410 (by decide +kernel) rfl) (zT_mem 411 (by decide +kernel) rfl) rfl rfl (Nat.le_of_ble_eq_true rfl) ⟨by decide, by decide⟩ (by decide +kernel) (fun hm hW hFr2 => ?_)
      replace hFr := hFr.tr hFr2; clear hFr2
      refine zV_eq (st2 := [.int v3.1]) rfl rfl rfl rfl ?_
      refine zV_blk (pc' := 60) (lo' := [(3, .int (v3.1 + 1)), (5, .int v3.1), (0, .ref rA), (1, .int x1), (2, .ref a2), (4, .int s.2.1)]) (st' := [.int x1, .int (v3.1 + 1)]) [.istore 5, .iload 5, .iconst 1, .iadd, .istore_n 3, .iload_n 3, .iload_n 1] (by decide +kernel) rfl ?_
      refine zV_icmp_gt (tgt := 67) (off := 7) (by decide +kernel) (by decide) (fun q => ?_) (fun q => ?_)
      · replace h := zif_pos q h
        clear q
        refine zV_pick (lo2 := [(0, .ref rA), (1, .int x1), (2, .ref a2), (3, .int (v3.1 + 1)), (4, .int s.2.1)]) [2, 3, 4, 0, 5] rfl ?_
        exact cr_readRow_67 s0 D X cB cI cJ cD rA sA tA R lv mo ty v3.2 tp s.2.2.2 n x1 (v3.1 + 1) s.2.1 N2   a2 hW  hXX hFr h hL23 hQ
      · replace h := zif_neg q h
        clear q
        refine zV_blk (pc' := 66) (lo' := [(3, .int (v3.1 + 1)), (5, .int v3.1), (0, .ref rA), (1, .int x1), (2, .ref a2), (4, .int s.2.1)]) (st' := [.int 1, .int (v3.1 + 1), .ref a2]) [.aload_n 2, .iload_n 3, .iconst 1] (by decide +kernel) rfl ?_
        obtain ⟨hz, h⟩ := zck_some h
        refine qa_st hW hz (by decide +kernel) (fun hm hW hFr2 => ?_)
        replace hFr := hFr.tr hFr2; clear hFr2
        refine zV_pick (lo2 := [(0, .ref rA), (1, .int x1), (2, .ref a2), (3, .int (v3.1 + 1)), (4, .int s.2.1)]) [2, 3, 4, 0, 5] rfl ?_
        exact cr_readRow_67 s0 D X cB cI cJ cD rA sA tA R lv mo ty v3.2 tp (upd s.2.2.2 ((v3.1 + 1) : Int32).toNatClampNeg 1) n x1 (v3.1 + 1) s.2.1 N2   a2 hW  hXX hFr h hL23 hQ
theorem cr_readRow_23L (s0 : State) (D : va_G) (X : Nat → Prop) (cB cI cJ cD : ClassId) (rA sA tA : Nat) (R : Nat → Int32) (lv : vLaw) (mo : Option vArr) (ty : vTrue) (tp : Nat → Int32) (n : Nat) (x1 : Int32) (N2 : Nat) (a2 : Nat) : ∀ (k : Nat) (s : Int32 × Int32 × (Nat → Int32) × (Nat → Int32)) {hi0 hi hm0 hm : zHp} {nx : Nat} {Q : Option Value → zHp → zHp → Nat → Prop} (_ : qA X cB cI rA sA tA R lv mo ty s.2.2.1 tp N2 a2 s.2.2.2 hi hm) (_ : zX hi0 hi) (_ : lFr X hm0 hm) {x : (vLaw) × (Nat → Int32)} (_ : zloop (r_readRow_23 n lv tp x1 N2) k s = some x) (hQ : ∀ r : (vLaw) × (Nat → Int32), x = r → ∀ (hi' hm' : zHp) (nx' : Nat), zX hi0 hi' → qW X cB cI rA sA tA R r.1 mo ty r.2 tp hi' hm' → lFr X hm0 hm' → Q none hi' hm' nx'), zV s0 D (zty cB cI cJ cD) yX7_readRow cX7_readRow 6 none 3 67 1 2 23 [(0, .ref rA), (1, .int x1), (2, .ref a2), (3, .int s.1), (4, .int s.2.1)] [] hi hm nx Q
  | 0, s, _, _, _, _, _, _, _, _, _, _, h, _ => by cases h
  | k + 1, s, hi0, hi, hm0, hm, nx, Q, hW, hXX, hFr, x, h, hQ => by
    obtain ⟨z, hz, h1, h2⟩ := zloop_succ h
    exact cr_readRow_23 s0 D X cB cI cJ cD rA sA tA R lv mo ty tp n x1 N2 a2 s hW  zX.rf hFr hz (fun s' hs hi' hm' nx' hX hW' hFr' => cr_readRow_23L s0 D X cB cI cJ cD rA sA tA R lv mo ty tp n x1 N2 a2 k s' hW'  (hXX.tr hX) hFr' (h1 s' hs) hQ) (fun r hr hi' hm' nx' hX hW' hFr' => hQ r (h2 _ hr).symm hi' hm' nx' (hXX.tr hX) hW' hFr')
def r_readRow (n : Nat) (lv : vLaw) (F : Nat → Int32) (tp : Nat → Int32) : Option ((vLaw) × (Nat → Int32)) := (n_takeNumber n F tp 1 400).bind (fun v1 => zck (zin ((v1.1 + 1)) (401 + 1)) ((zloop (r_readRow_23 n lv tp v1.1 ((v1.1 + 1) : Int32).toNatClampNeg) n (0, 0, v1.2, (fun _ => 0)))))
theorem oX7_readRow : zO yX7_readRow cX7_readRow 6 none 0 := ⟨zT_mem 479 (by decide +kernel) rfl, zT_mem 97 (by decide +kernel) rfl, by decide +kernel, by decide +kernel, by decide +kernel⟩
set_option maxHeartbeats 4000000 in
set_option maxRecDepth 100000 in
theorem cr_readRow (s0 : State) (D : va_G) (X : Nat → Prop) (cB cI cJ cD : ClassId) (rA sA tA : Nat) (R : Nat → Int32) (lv : vLaw) (mo : Option vArr) (ty : vTrue) (F : Nat → Int32) (tp : Nat → Int32) (n : Nat) (x : (vLaw) × (Nat → Int32)) (h : r_readRow n lv F tp  = some x) {hi hm : zHp} {nx : Nat} {Q : Option Value → zHp → zHp → Nat → Prop} (hW : qW X cB cI rA sA tA R lv mo ty F tp hi hm) (hQ0 : ∀ (hi' hm' : zHp) (nx' : Nat), zX hi hi' → qW X cB cI rA sA tA R x.1 mo ty x.2 tp hi' hm' → lFr X hm hm' → Q none hi' hm' nx') : zM s0 D (zty cB cI cJ cD) yX7_readRow cX7_readRow 6 none 3 67 2 403 [.ref rA] hi hm nx Q := by
  have hQ : ∀ r : (vLaw) × (Nat → Int32), x = r → ∀ (hi' hm' : zHp) (nx' : Nat), zX hi hi' → qW X cB cI rA sA tA R r.1 mo ty r.2 tp hi' hm' → lFr X hm hm' → Q none hi' hm' nx' := fun r hr => by subst hr; exact hQ0
  clear hQ0
  have hXX : zX hi hi := zX.rf
  have hFr : lFr X hm hm := lFr.rf
  refine zM_of (by decide +kernel) (Nat.le_of_ble_eq_true rfl) ?_
  unfold r_readRow at h
  refine zV_eq (lo2 := [(0, .ref rA)]) rfl rfl rfl rfl ?_
  refine zV_blk (pc' := 1) (lo' := [(0, .ref rA)]) (st' := [.ref rA]) [.aload_n 0] (by decide +kernel) rfl ?_
  refine q_get (idx := 56) (k := 0) (v := .ref sA) hW (by decide) (zT_mem 297 (by decide +kernel) rfl) (fun _ _ _ => rfl) (by decide +kernel) ?_
  refine zV_blk (pc' := 8) (lo' := [(0, .ref rA)]) (st' := [.int 400, .int 1, .ref sA]) [.iconst 1, .sipush 400] (by decide +kernel) rfl ?_
  obtain ⟨v1, hv1, h⟩ := zbind h
  refine q_cC (idx := 100) (rest := []) hW (cn_takeNumber s0 D cB cI cJ cD sA tA 0 0 F (fun _ => 0) tp (fun _ => 0) (fun _ => 0) n 1 400 v1 hv1) oX9_takeNumber rfl (zT_mem 409 (by decide +kernel) rfl) (zT_mem 410 (by decide +kernel) rfl) (zT_mem 411 (by decide +kernel) rfl) rfl rfl (Nat.le_of_ble_eq_true rfl) ⟨by decide, by decide⟩ (by decide +kernel) (fun hm hW hFr2 => ?_)
  replace hFr := hFr.tr hFr2; clear hFr2
  refine zV_eq (st2 := [.int v1.1]) rfl rfl rfl rfl ?_
  refine zV_blk (pc' := 15) (lo' := [(1, .int v1.1), (0, .ref rA)]) (st' := [.int (v1.1 + 1)]) [.istore_n 1, .iload_n 1, .iconst 1, .iadd] (by decide +kernel) rfl ?_
  obtain ⟨hz, h⟩ := zck_some h
  refine qa_new (mc := 1) (ms := 2) 401 hW (zT_mem 155 (by decide +kernel) rfl) hz (by decide) (by decide +kernel) (fun hm2 nx3 hW2 hFr2 => ?_)
  obtain ⟨b2, heb2⟩ : ∃ z : Nat, z = nx := ⟨_, rfl⟩
  rw [← heb2] at hW2 ⊢; clear heb2
  clear hW; have hW := hW2; clear hW2
  replace hFr := hFr.tr hFr2; clear hFr2
  refine zV_blk (pc' := 23) (lo' := [(4, .int 0), (3, .int 0), (2, .ref b2), (1, .int v1.1), (0, .ref rA)]) (st' := []) [.astore_n 2, .iconst 0, .istore_n 3, .iconst 0, .istore 4] (by decide +kernel) rfl ?_
  refine zV_pick (lo2 := [(0, .ref rA), (1, .int v1.1), (2, .ref b2), (3, .int 0), (4, .int 0)]) [4, 3, 2, 1, 0] rfl ?_
  exact cr_readRow_23L s0 D X cB cI cJ cD rA sA tA R lv mo ty tp n v1.1 ((v1.1 + 1) : Int32).toNatClampNeg  b2 n (0, 0, v1.2, (fun _ => 0)) hW  hXX hFr h hQ

