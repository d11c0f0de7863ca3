def w_copy (A : Nat → Int32) (dv : Nat → Option vDes) (cs : Nat → Int32) (cv : Nat → Option vDes) (x1 : Int32) (x2 : Int32) : Option (Int32 × (Nat → Int32) × (Nat → Option vDes) × (Nat → Int32) × (Nat → Option vDes)) := (k_designAt dv x2).bind (fun v1 => zOm (v1) ((k_isSlot x1).bind (fun v5 => (if v5 = true then some ((-2), A, dv, cs, cv) else some ((-2), A, dv, cs, cv)))) (fun z3 => (k_isSlot x1).bind (fun v6 => (if v6 = true then (if (x1 : Int32) = (x2 : Int32) then some ((-2), A, dv, cs, cv) else (w_change  A dv cs cv x1 (some z3)).bind (fun v7 => some (1, v7.1, v7.2.1, v7.2.2.1, v7.2.2.2))) else some ((-2), A, dv, cs, cv)))))
theorem oX11_copy : zO yX11_copy cX11_copy 4 (some .int) 2 := ⟨zT_mem 732 (by decide +kernel) rfl, zT_mem 89 (by decide +kernel) rfl, by decide +kernel, by decide +kernel, by decide +kernel⟩
set_option maxHeartbeats 4000000 in
set_option maxRecDepth 100000 in
theorem cw_copy (s0 : State) (D : va_G) (X : Nat → Prop) (cB cI cJ cD : ClassId) (al l1 l2 l3 l4 l5 : Nat) (A : Nat → Int32) (tp : Nat → Int32) (dv : Nat → Option vDes) (cs : Nat → Int32) (cv : Nat → Option vDes) (jv : Option vJoint) (bo : Option (Nat → Int32)) (hg : Option (Nat → Int64)) (lw : Option (Nat → Int64)) (sb : vSB) (x1 : Int32) (x2 : Int32) (x : Int32 × (Nat → Int32) × (Nat → Option vDes) × (Nat → Int32) × (Nat → Option vDes)) (h : w_copy A dv cs cv x1 x2 = some x) {hi hm : zHp} {nx : Nat} {Q : Option Value → zHp → zHp → Nat → Prop} (hW : lW X cB cI cJ cD al l1 l2 l3 l4 l5 A tp dv cs cv jv bo hg lw sb hi hm) (hQ0 : ∀ (hi' hm' : zHp) (nx' : Nat), zX hi hi' → lW X cB cI cJ cD al l1 l2 l3 l4 l5 x.2.1 tp x.2.2.1 x.2.2.2.1 x.2.2.2.2 jv bo hg lw sb hi' hm' → lFr X hm hm' → Q (some (.int x.1)) hi' hm' nx') : zM s0 D (zty cB cI cJ cD) yX11_copy cX11_copy 4 (some .int) 2 43 0 0 [.ref al, .int x1, .int x2] hi hm nx Q := by
  have hQ : ∀ r : Int32 × (Nat → Int32) × (Nat → Option vDes) × (Nat → Int32) × (Nat → Option vDes), x = r → ∀ (hi' hm' : zHp) (nx' : Nat), zX hi hi' → lW X cB cI cJ cD al l1 l2 l3 l4 l5 r.2.1 tp r.2.2.1 r.2.2.2.1 r.2.2.2.2 jv bo hg lw sb hi' hm' → lFr X hm hm' → Q (some (.int r.1)) hi' hm' nx' := fun r hr => by subst hr; exact hQ0
  clear hQ0
  have hXX : zX hi hi := zX.rf
  have hFr : lFr X hm hm := lFr.rf
  refine zM_of (by decide +kernel) (Nat.le_of_ble_eq_true rfl) ?_
  unfold w_copy at h
  refine zV_eq (lo2 := [(0, .ref al), (1, .int x1), (2, .int x2)]) rfl rfl rfl rfl ?_
  refine zV_blk (pc' := 2) (lo' := [(0, .ref al), (1, .int x1), (2, .int x2)]) (st' := [.int x2, .ref al]) [.aload_n 0, .iload_n 2] (by decide +kernel) rfl ?_
  obtain ⟨v1, hv1, h⟩ := zbind h
  refine zV_designAt (idx := 105) (rest := []) v1 hv1 hW.ld (zT_mem 603 (by decide +kernel) rfl) rfl (Nat.le_of_ble_eq_true rfl) ⟨by decide, by decide⟩ (by decide +kernel) (fun hx => ?_) (fun b2 z3 hx ho4 => ?_)
  · rw [hx] at h; replace h := zOm_none h
    refine zV_blk (pc' := 7) (lo' := [(3, .null), (0, .ref al), (1, .int x1), (2, .int x2)]) (st' := [.int x1]) [.astore_n 3, .iload_n 1] (by decide +kernel) rfl ?_
    obtain ⟨v5, hv5, h⟩ := zbind h
    refine zV_roS (idx := 67) (rest := []) (fun Q2 hQ2 => ck_isSlot s0 D cB cI cJ cD x1  v5 hv5  hQ2) oX11_isSlot (zT_mem 215 (by decide +kernel) rfl) (zT_mem 216 (by decide +kernel) rfl) rfl rfl (Nat.le_of_ble_eq_true rfl) ⟨by decide, by decide⟩ (by decide +kernel) ?_
    refine zV_eq (st2 := [.int (zb v5)]) rfl rfl rfl rfl ?_
    refine zV_bif_eq (tgt := 22) (off := 12) (by decide +kernel) (by decide) (fun q => ?_) (fun q => ?_)
    · replace h := zif_neg q h
      clear q
      refine zV_blk (pc' := 24) (lo' := [(3, .null), (0, .ref al), (1, .int x1), (2, .int x2)]) (st' := [.int (-2)]) [.bipush (-2)] (by decide +kernel) rfl ?_
      obtain rfl := Option.some.inj h
      exact zV_iret rfl (by decide +kernel) (hQ _ rfl _ _ _ hXX hW hFr)
    · replace h := zif_pos q h
      clear q
      refine zV_blk (pc' := 14) (lo' := [(3, .null), (0, .ref al), (1, .int x1), (2, .int x2)]) (st' := [.null]) [.aload_n 3] (by decide +kernel) rfl ?_
      refine zV_ifnull (r := none) (tgt := 22) (off := 8) (by decide +kernel) (by decide) (fun _ => ?_) (fun _ q => by cases q)
      refine zV_blk (pc' := 24) (lo' := [(3, .null), (0, .ref al), (1, .int x1), (2, .int x2)]) (st' := [.int (-2)]) [.bipush (-2)] (by decide +kernel) rfl ?_
      obtain rfl := Option.some.inj h
      exact zV_iret rfl (by decide +kernel) (hQ _ rfl _ _ _ hXX hW hFr)
  · rw [hx] at h; replace h := zOm_some h
    refine zV_blk (pc' := 7) (lo' := [(3, .ref b2), (0, .ref al), (1, .int x1), (2, .int x2)]) (st' := [.int x1]) [.astore_n 3, .iload_n 1] (by decide +kernel) rfl ?_
    obtain ⟨v6, hv6, h⟩ := zbind h
    refine zV_roS (idx := 67) (rest := []) (fun Q2 hQ2 => ck_isSlot s0 D cB cI cJ cD x1  v6 hv6  hQ2) oX11_isSlot (zT_mem 215 (by decide +kernel) rfl) (zT_mem 216 (by decide +kernel) rfl) rfl rfl (Nat.le_of_ble_eq_true rfl) ⟨by decide, by decide⟩ (by decide +kernel) ?_
    refine zV_eq (st2 := [.int (zb v6)]) rfl rfl rfl rfl ?_
    refine zV_bif_eq (tgt := 22) (off := 12) (by decide +kernel) (by decide) (fun q => ?_) (fun q => ?_)
    · replace h := zif_neg q h
      clear q
      refine zV_blk (pc' := 24) (lo' := [(3, .ref b2), (0, .ref al), (1, .int x1), (2, .int x2)]) (st' := [.int (-2)]) [.bipush (-2)] (by decide +kernel) rfl ?_
      obtain rfl := Option.some.inj h
      exact zV_iret rfl (by decide +kernel) (hQ _ rfl _ _ _ hXX hW hFr)
    · replace h := zif_pos q h
      clear q
      refine zV_blk (pc' := 14) (lo' := [(3, .ref b2), (0, .ref al), (1, .int x1), (2, .int x2)]) (st' := [.ref b2]) [.aload_n 3] (by decide +kernel) rfl ?_
      refine zV_ifnull (r := some b2) (tgt := 22) (off := 8) (by decide +kernel) (by decide) (fun q => by cases q) (fun _ _ => ?_)
      refine zV_blk (pc' := 19) (lo' := [(3, .ref b2), (0, .ref al), (1, .int x1), (2, .int x2)]) (st' := [.int x2, .int x1]) [.iload_n 1, .iload_n 2] (by decide +kernel) rfl ?_
      refine zV_icmp_ne (tgt := 25) (off := 6) (by decide +kernel) (by decide) (fun q => ?_) (fun q => ?_)
      · replace h := zif_neg q h
        clear q
        refine zV_blk (pc' := 28) (lo' := [(3, .ref b2), (0, .ref al), (1, .int x1), (2, .int x2)]) (st' := [.ref b2, .int x1, .ref al]) [.aload_n 0, .iload_n 1, .aload_n 3] (by decide +kernel) rfl ?_
        obtain ⟨v7, hv7, h⟩ := zbind h
        refine l_call (mc := 0) (ms := 0) (idx := 91) (As := [.int x1, .ref b2]) (rest := []) hW (fun Q2 hQ2 => cw_change s0 D X cB cI cJ cD al l1 l2 l3 l4 l5 A tp dv cs cv jv bo hg lw sb x1 (some z3) (some b2) v7 hv7 hW (Or.inr ⟨_, _, rfl, rfl, ho4⟩) hQ2) oX11_change rfl (zT_mem 576 (by decide +kernel) rfl) (zT_mem 578 (by decide +kernel) rfl) (zT_mem 10 (by decide +kernel) rfl) rfl rfl (Nat.le_of_ble_eq_true rfl) ⟨by decide, by decide⟩ (by decide +kernel) ?_
        intro hi2 hm2 nx8 hX hW2 hFr2
        replace ho4 := ho4.mono hX
        clear hW; have hW := hW2; clear hW2
        replace hXX := hXX.tr hX; clear hX
        replace hFr := hFr.tr hFr2; clear hFr2
        refine zV_eq (st2 := []) rfl rfl rfl rfl ?_
        refine zV_blk (pc' := 32) (lo' := [(3, .ref b2), (0, .ref al), (1, .int x1), (2, .int x2)]) (st' := [.int 1]) [.iconst 1] (by decide +kernel) rfl ?_
        obtain rfl := Option.some.inj h
        exact zV_iret rfl (by decide +kernel) (hQ _ rfl _ _ _ hXX hW hFr)
      · replace h := zif_pos q h
        clear q
        refine zV_blk (pc' := 24) (lo' := [(3, .ref b2), (0, .ref al), (1, .int x1), (2, .int x2)]) (st' := [.int (-2)]) [.bipush (-2)] (by decide +kernel) rfl ?_
        obtain rfl := Option.some.inj h
        exact zV_iret rfl (by decide +kernel) (hQ _ rfl _ _ _ hXX hW hFr)

def w_drop (n : Nat) (A : Nat → Int32) (dv : Nat → Option vDes) (cs : Nat → Int32) (cv : Nat → Option vDes) (x1 : Int32) : Option (Int32 × (Nat → Int32) × (Nat → Option vDes) × (Nat → Int32) × (Nat → Option vDes)) := (k_designAt dv x1).bind (fun v1 => zOm (v1) (some ((-2), A, dv, cs, cv)) (fun z3 => (w_change  A dv cs cv x1 none).bind (fun v5 => (w_designsThere n v5.2.1).bind (fun v7 => some (v7, v5.1, v5.2.1, v5.2.2.1, v5.2.2.2)))))
theorem oX11_drop : zO yX11_drop cX11_drop 2 (some .int) 1 := ⟨zT_mem 736 (by decide +kernel) rfl, zT_mem 89 (by decide +kernel) rfl, by decide +kernel, by decide +kernel, by decide +kernel⟩
set_option maxHeartbeats 4000000 in
set_option maxRecDepth 100000 in
theorem cw_drop (s0 : State) (D : va_G) (X : Nat → Prop) (cB cI cJ cD : ClassId) (al l1 l2 l3 l4 l5 : Nat) (A : Nat → Int32) (tp : Nat → Int32) (dv : Nat → Option vDes) (cs : Nat → Int32) (cv : Nat → Option vDes) (jv : Option vJoint) (bo : Option (Nat → Int32)) (hg : Option (Nat → Int64)) (lw : Option (Nat → Int64)) (sb : vSB) (n : Nat) (x1 : Int32) (x : Int32 × (Nat → Int32) × (Nat → Option vDes) × (Nat → Int32) × (Nat → Option vDes)) (h : w_drop n A dv cs cv x1 = some x) {hi hm : zHp} {nx : Nat} {Q : Option Value → zHp → zHp → Nat → Prop} (hW : lW X cB cI cJ cD al l1 l2 l3 l4 l5 A tp dv cs cv jv bo hg lw sb hi hm) (hQ0 : ∀ (hi' hm' : zHp) (nx' : Nat), zX hi hi' → lW X cB cI cJ cD al l1 l2 l3 l4 l5 x.2.1 tp x.2.2.1 x.2.2.2.1 x.2.2.2.2 jv bo hg lw sb hi' hm' → lFr X hm hm' → Q (some (.int x.1)) hi' hm' nx') : zM s0 D (zty cB cI cJ cD) yX11_drop cX11_drop 2 (some .int) 2 43 0 0 [.ref al, .int x1] hi hm nx Q := by
  have hQ : ∀ r : Int32 × (Nat → Int32) × (Nat → Option vDes) × (Nat → Int32) × (Nat → Option vDes), x = r → ∀ (hi' hm' : zHp) (nx' : Nat), zX hi hi' → lW X cB cI cJ cD al l1 l2 l3 l4 l5 r.2.1 tp r.2.2.1 r.2.2.2.1 r.2.2.2.2 jv bo hg lw sb hi' hm' → lFr X hm hm' → Q (some (.int r.1)) hi' hm' nx' := fun r hr => by subst hr; exact hQ0
  clear hQ0
  have hXX : zX hi hi := zX.rf
  have hFr : lFr X hm hm := lFr.rf
  refine zM_of (by decide +kernel) (Nat.le_of_ble_eq_true rfl) ?_
  unfold w_drop at h
  refine zV_eq (lo2 := [(0, .ref al), (1, .int x1)]) rfl rfl rfl rfl ?_
  refine zV_blk (pc' := 2) (lo' := [(0, .ref al), (1, .int x1)]) (st' := [.int x1, .ref al]) [.aload_n 0, .iload_n 1] (by decide +kernel) rfl ?_
  obtain ⟨v1, hv1, h⟩ := zbind h
  refine zV_designAt (idx := 105) (rest := []) v1 hv1 hW.ld (zT_mem 603 (by decide +kernel) rfl) rfl (Nat.le_of_ble_eq_true rfl) ⟨by decide, by decide⟩ (by decide +kernel) (fun hx => ?_) (fun b2 z3 hx ho4 => ?_)
  · rw [hx] at h; replace h := zOm_none h
    refine zV_ifnonnull (r := none) (tgt := 11) (off := 6) (by decide +kernel) (by decide) (fun _ q => by cases q) (fun _ => ?_)
    refine zV_blk (pc' := 10) (lo' := [(0, .ref al), (1, .int x1)]) (st' := [.int (-2)]) [.bipush (-2)] (by decide +kernel) rfl ?_
    obtain rfl := Option.some.inj h
    exact zV_iret rfl (by decide +kernel) (hQ _ rfl _ _ _ hXX hW hFr)
  · rw [hx] at h; replace h := zOm_some h
    refine zV_ifnonnull (r := some b2) (tgt := 11) (off := 6) (by decide +kernel) (by decide) (fun _ _ => ?_) (fun q => by cases q)
    refine zV_blk (pc' := 13) (lo' := [(0, .ref al), (1, .int x1)]) (st' := [.int x1, .ref al]) [.aload_n 0, .iload_n 1] (by decide +kernel) rfl ?_
    refine zV_blk (pc' := 14) (lo' := [(0, .ref al), (1, .int x1)]) (st' := [.null, .int x1, .ref al]) [.aconst_null] (by decide +kernel) rfl ?_
    obtain ⟨v5, hv5, h⟩ := zbind h
    refine l_call (mc := 0) (ms := 0) (idx := 91) (As := [.int x1, .null]) (rest := []) hW (fun Q2 hQ2 => cw_change s0 D X cB cI cJ cD al l1 l2 l3 l4 l5 A tp dv cs cv jv bo hg lw sb x1 none none v5 hv5 hW (Or.inl ⟨rfl, rfl⟩) hQ2) oX11_change rfl (zT_mem 576 (by decide +kernel) rfl) (zT_mem 578 (by decide +kernel) rfl) (zT_mem 10 (by decide +kernel) rfl) rfl rfl (Nat.le_of_ble_eq_true rfl) ⟨by decide, by decide⟩ (by decide +kernel) ?_
    intro hi2 hm2 nx6 hX hW2 hFr2
    clear hW; have hW := hW2; clear hW2
    replace hXX := hXX.tr hX; clear hX
    replace hFr := hFr.tr hFr2; clear hFr2
    refine zV_eq (st2 := []) rfl rfl rfl rfl ?_
    refine zV_blk (pc' := 18) (lo' := [(0, .ref al), (1, .int x1)]) (st' := [.ref al]) [.aload_n 0] (by decide +kernel) rfl ?_
    obtain ⟨v7, hv7, h⟩ := zbind h
    refine l_call (mc := 0) (ms := 0) (idx := 154) (As := []) (rest := []) hW (fun Q2 hQ2 => cw_designsThere s0 D X cB cI cJ cD al l1 l2 l3 l4 l5 v5.1 tp v5.2.1 v5.2.2.1 v5.2.2.2 jv bo hg lw sb n   v7 hv7 hW  hQ2) oX11_designsThere rfl (zT_mem 660 (by decide +kernel) rfl) (zT_mem 662 (by decide +kernel) rfl) (zT_mem 12 (by decide +kernel) rfl) rfl rfl (Nat.le_of_ble_eq_true rfl) ⟨by decide, by decide⟩ (by decide +kernel) ?_
    intro hi2 hm2 nx8 hX hW2 hFr2
    clear hW; have hW := hW2; clear hW2
    replace hXX := hXX.tr hX; clear hX
    replace hFr := hFr.tr hFr2; clear hFr2
    refine zV_eq (st2 := [.int v7]) rfl rfl rfl rfl ?_
    obtain rfl := Option.some.inj h
    exact zV_iret rfl (by decide +kernel) (hQ _ rfl _ _ _ hXX hW hFr)

def w_undo (A : Nat → Int32) (dv : Nat → Option vDes) (cs : Nat → Int32) (cv : Nat → Option vDes) : Option (Int32 × (Nat → Int32) × (Nat → Option vDes) × (Nat → Option vDes)) := (if ((A 8) : Int32) = (0 : Int32) then some ((-3), A, dv, cv) else zck (decide (¬ (12 : Int32) = 0)) (zck (zin (((upd (upd A 7 ((((A 7) + 12) - 1) - (((A 7) + 12) - 1) / 12 * 12)) 8 (((upd A 7 ((((A 7) + 12) - 1) - (((A 7) + 12) - 1) / 12 * 12)) 8) - 1)) 7)) 12) (zck (zin (((upd (upd A 7 ((((A 7) + 12) - 1) - (((A 7) + 12) - 1) / 12 * 12)) 8 (((upd A 7 ((((A 7) + 12) - 1) - (((A 7) + 12) - 1) / 12 * 12)) 8) - 1)) 7)) 12) (zOm (cv (((upd (upd A 7 ((((A 7) + 12) - 1) - (((A 7) + 12) - 1) / 12 * 12)) 8 (((upd A 7 ((((A 7) + 12) - 1) - (((A 7) + 12) - 1) / 12 * 12)) 8) - 1)) 7) : Int32).toNatClampNeg) (zck (zin ((cs (((upd (upd A 7 ((((A 7) + 12) - 1) - (((A 7) + 12) - 1) / 12 * 12)) 8 (((upd A 7 ((((A 7) + 12) - 1) - (((A 7) + 12) - 1) / 12 * 12)) 8) - 1)) 7) : Int32).toNatClampNeg)) 6) (zck (zin (((upd (upd A 7 ((((A 7) + 12) - 1) - (((A 7) + 12) - 1) / 12 * 12)) 8 (((upd A 7 ((((A 7) + 12) - 1) - (((A 7) + 12) - 1) / 12 * 12)) 8) - 1)) 7)) 12) (some (((upd (upd A 7 ((((A 7) + 12) - 1) - (((A 7) + 12) - 1) / 12 * 12)) 8 (((upd A 7 ((((A 7) + 12) - 1) - (((A 7) + 12) - 1) / 12 * 12)) 8) - 1)) 8), (upd (upd A 7 ((((A 7) + 12) - 1) - (((A 7) + 12) - 1) / 12 * 12)) 8 (((upd A 7 ((((A 7) + 12) - 1) - (((A 7) + 12) - 1) / 12 * 12)) 8) - 1)), (va_up dv ((cs (((upd (upd A 7 ((((A 7) + 12) - 1) - (((A 7) + 12) - 1) / 12 * 12)) 8 (((upd A 7 ((((A 7) + 12) - 1) - (((A 7) + 12) - 1) / 12 * 12)) 8) - 1)) 7) : Int32).toNatClampNeg) : Int32).toNatClampNeg none), (va_up cv (((upd (upd A 7 ((((A 7) + 12) - 1) - (((A 7) + 12) - 1) / 12 * 12)) 8 (((upd A 7 ((((A 7) + 12) - 1) - (((A 7) + 12) - 1) / 12 * 12)) 8) - 1)) 7) : Int32).toNatClampNeg none))))) (fun z2 => zck (zin ((cs (((upd (upd A 7 ((((A 7) + 12) - 1) - (((A 7) + 12) - 1) / 12 * 12)) 8 (((upd A 7 ((((A 7) + 12) - 1) - (((A 7) + 12) - 1) / 12 * 12)) 8) - 1)) 7) : Int32).toNatClampNeg)) 6) (zck (zin (((upd (upd A 7 ((((A 7) + 12) - 1) - (((A 7) + 12) - 1) / 12 * 12)) 8 (((upd A 7 ((((A 7) + 12) - 1) - (((A 7) + 12) - 1) / 12 * 12)) 8) - 1)) 7)) 12) (some (((upd (upd A 7 ((((A 7) + 12) - 1) - (((A 7) + 12) - 1) / 12 * 12)) 8 (((upd A 7 ((((A 7) + 12) - 1) - (((A 7) + 12) - 1) / 12 * 12)) 8) - 1)) 8), (upd (upd A 7 ((((A 7) + 12) - 1) - (((A 7) + 12) - 1) / 12 * 12)) 8 (((upd A 7 ((((A 7) + 12) - 1) - (((A 7) + 12) - 1) / 12 * 12)) 8) - 1)), (va_up dv ((cs (((upd (upd A 7 ((((A 7) + 12) - 1) - (((A 7) + 12) - 1) / 12 * 12)) 8 (((upd A 7 ((((A 7) + 12) - 1) - (((A 7) + 12) - 1) / 12 * 12)) 8) - 1)) 7) : Int32).toNatClampNeg) : Int32).toNatClampNeg (some z2)), (va_up cv (((upd (upd A 7 ((((A 7) + 12) - 1) - (((A 7) + 12) - 1) / 12 * 12)) 8 (((upd A 7 ((((A 7) + 12) - 1) - (((A 7) + 12) - 1) / 12 * 12)) 8) - 1)) 7) : Int32).toNatClampNeg none)))))))))
theorem oX11_undo : zO yX11_undo cX11_undo 1 (some .int) 0 := ⟨zT_mem 761 (by decide +kernel) rfl, zT_mem 89 (by decide +kernel) rfl, by decide +kernel, by decide +kernel, by decide +kernel⟩
set_option maxHeartbeats 4000000 in
set_option maxRecDepth 100000 in
theorem cw_undo (s0 : State) (D : va_G) (X : Nat → Prop) (cB cI cJ cD : ClassId) (al l1 l2 l3 l4 l5 : Nat) (A : Nat → Int32) (tp : Nat → Int32) (dv : Nat → Option vDes) (cs : Nat → Int32) (cv : Nat → Option vDes) (jv : Option vJoint) (bo : Option (Nat → Int32)) (hg : Option (Nat → Int64)) (lw : Option (Nat → Int64)) (sb : vSB) (x : Int32 × (Nat → Int32) × (Nat → Option vDes) × (Nat → Option vDes)) (h : w_undo A dv cs cv  = some x) {hi hm : zHp} {nx : Nat} {Q : Option Value → zHp → zHp → Nat → Prop} (hW : lW X cB cI cJ cD al l1 l2 l3 l4 l5 A tp dv cs cv jv bo hg lw sb hi hm) (hQ0 : ∀ (hi' hm' : zHp) (nx' : Nat), zX hi hi' → lW X cB cI cJ cD al l1 l2 l3 l4 l5 x.2.1 tp x.2.2.1 cs x.2.2.2 jv bo hg lw sb hi' hm' → lFr X hm hm' → Q (some (.int x.1)) hi' hm' nx') : zM s0 D (zty cB cI cJ cD) yX11_undo cX11_undo 1 (some .int) 0 0 0 0 [.ref al] hi hm nx Q := by
  have hQ : ∀ r : Int32 × (Nat → Int32) × (Nat → Option vDes) × (Nat → Option vDes), x = r → ∀ (hi' hm' : zHp) (nx' : Nat), zX hi hi' → lW X cB cI cJ cD al l1 l2 l3 l4 l5 r.2.1 tp r.2.2.1 cs r.2.2.2 jv bo hg lw sb hi' hm' → lFr X hm hm' → Q (some (.int r.1)) hi' hm' nx' := fun r hr => by subst hr; exact hQ0
  clear hQ0
  have hXX : zX hi hi := zX.rf
  have hFr : lFr X hm hm := lFr.rf
  refine zM_of (by decide +kernel) (Nat.le_of_ble_eq_true rfl) ?_
  unfold w_undo at h
  refine zV_eq (lo2 := [(0, .ref al)]) rfl rfl rfl rfl ?_
  refine zV_blk (pc' := 1) (lo' := [(0, .ref al)]) (st' := [.ref al]) [.aload_n 0] (by decide +kernel) rfl ?_
  refine l_get (idx := 39) (k := 8) (v := .int (A 8)) hW (by decide) (zT_mem 164 (by decide +kernel) rfl) (fun _ _ _ _ => rfl) (by decide +kernel) ?_
  refine zV_if_ne (tgt := 10) (off := 6) (by decide +kernel) (by decide) (fun q => ?_) (fun q => ?_)
  · replace h := zif_neg q h
    clear q
    refine zV_blk (pc' := 12) (lo' := [(0, .ref al)]) (st' := [.ref al, .ref al]) [.aload_n 0, .aload_n 0] (by decide +kernel) rfl ?_
    refine l_get (idx := 36) (k := 7) (v := .int (A 7)) hW (by decide) (zT_mem 163 (by decide +kernel) rfl) (fun _ _ _ _ => rfl) (by decide +kernel) ?_
    refine zV_blk (pc' := 22) (lo' := [(0, .ref al)]) (st' := [.int 12, .int (((A 7) + 12) - 1), .ref al]) [.bipush 12, .iadd, .iconst 1, .isub, .bipush 12] (by decide +kernel) rfl ?_
    obtain ⟨hz, h⟩ := zck_some h
    refine zV_irem (by decide +kernel) (of_decide_eq_true hz) ?_
    refine l_putI (idx := 36) (k := 7) (x := ((((A 7) + 12) - 1) - (((A 7) + 12) - 1) / 12 * 12)) hW (by decide) (zT_mem 163 (by decide +kernel) rfl) (by decide +kernel) (fun hm hW hFr2 => ?_)
    replace hFr := hFr.tr hFr2; clear hFr2
    refine zV_blk (pc' := 28) (lo' := [(0, .ref al)]) (st' := [.ref al, .ref al]) [.aload_n 0, .dup] (by decide +kernel) rfl ?_
    refine l_get (idx := 39) (k := 8) (v := .int ((upd A 7 ((((A 7) + 12) - 1) - (((A 7) + 12) - 1) / 12 * 12)) 8)) hW (by decide) (zT_mem 164 (by decide +kernel) rfl) (fun _ _ _ _ => rfl) (by decide +kernel) ?_
    refine zV_blk (pc' := 33) (lo' := [(0, .ref al)]) (st' := [.int (((upd A 7 ((((A 7) + 12) - 1) - (((A 7) + 12) - 1) / 12 * 12)) 8) - 1), .ref al]) [.iconst 1, .isub] (by decide +kernel) rfl ?_
    refine l_putI (idx := 39) (k := 8) (x := (((upd A 7 ((((A 7) + 12) - 1) - (((A 7) + 12) - 1) / 12 * 12)) 8) - 1)) hW (by decide) (zT_mem 164 (by decide +kernel) rfl) (by decide +kernel) (fun hm hW hFr2 => ?_)
    replace hFr := hFr.tr hFr2; clear hFr2
    refine zV_blk (pc' := 37) (lo' := [(0, .ref al)]) (st' := [.ref al]) [.aload_n 0] (by decide +kernel) rfl ?_
    refine l_get (idx := 25) (k := 4) (v := .ref l2) hW (by decide) (zT_mem 160 (by decide +kernel) rfl) (fun _ _ _ _ => rfl) (by decide +kernel) ?_
    refine zV_blk (pc' := 41) (lo' := [(0, .ref al)]) (st' := [.ref al, .ref l2]) [.aload_n 0] (by decide +kernel) rfl ?_
    refine l_get (idx := 29) (k := 5) (v := .ref l3) hW (by decide) (zT_mem 161 (by decide +kernel) rfl) (fun _ _ _ _ => rfl) (by decide +kernel) ?_
    refine zV_blk (pc' := 45) (lo' := [(0, .ref al)]) (st' := [.ref al, .ref l3, .ref l2]) [.aload_n 0] (by decide +kernel) rfl ?_
    refine l_get (idx := 36) (k := 7) (v := .int ((upd (upd A 7 ((((A 7) + 12) - 1) - (((A 7) + 12) - 1) / 12 * 12)) 8 (((upd A 7 ((((A 7) + 12) - 1) - (((A 7) + 12) - 1) / 12 * 12)) 8) - 1)) 7)) hW (by decide) (zT_mem 163 (by decide +kernel) rfl) (fun _ _ _ _ => rfl) (by decide +kernel) ?_
    obtain ⟨hz, h⟩ := zck_some h
    refine l_cld hW hz (by decide +kernel) ?_
    refine zV_blk (pc' := 50) (lo' := [(0, .ref al)]) (st' := [.ref al, .int (cs (((upd (upd A 7 ((((A 7) + 12) - 1) - (((A 7) + 12) - 1) / 12 * 12)) 8 (((upd A 7 ((((A 7) + 12) - 1) - (((A 7) + 12) - 1) / 12 * 12)) 8) - 1)) 7) : Int32).toNatClampNeg), .ref l2]) [.aload_n 0] (by decide +kernel) rfl ?_
    refine l_get (idx := 33) (k := 6) (v := .ref l4) hW (by decide) (zT_mem 162 (by decide +kernel) rfl) (fun _ _ _ _ => rfl) (by decide +kernel) ?_
    refine zV_blk (pc' := 54) (lo' := [(0, .ref al)]) (st' := [.ref al, .ref l4, .int (cs (((upd (upd A 7 ((((A 7) + 12) - 1) - (((A 7) + 12) - 1) / 12 * 12)) 8 (((upd A 7 ((((A 7) + 12) - 1) - (((A 7) + 12) - 1) / 12 * 12)) 8) - 1)) 7) : Int32).toNatClampNeg), .ref l2]) [.aload_n 0] (by decide +kernel) rfl ?_
    refine l_get (idx := 36) (k := 7) (v := .int ((upd (upd A 7 ((((A 7) + 12) - 1) - (((A 7) + 12) - 1) / 12 * 12)) 8 (((upd A 7 ((((A 7) + 12) - 1) - (((A 7) + 12) - 1) / 12 * 12)) 8) - 1)) 7)) hW (by decide) (zT_mem 163 (by decide +kernel) rfl) (fun _ _ _ _ => rfl) (by decide +kernel) ?_
    obtain ⟨hz, h⟩ := zck_some h
    refine l_vld hW hz (by decide +kernel) (fun hx => ?_) (fun b1 z2 hx ho3 => ?_)
    · rw [hx] at h; replace h := zOm_none h
      obtain ⟨hz, h⟩ := zck_some h
      refine l_dstN hW hz (by decide +kernel) (fun hm hW hFr2 => ?_)
      replace hFr := hFr.tr hFr2; clear hFr2
      refine zV_blk (pc' := 60) (lo' := [(0, .ref al)]) (st' := [.ref al]) [.aload_n 0] (by decide +kernel) rfl ?_
      refine l_get (idx := 33) (k := 6) (v := .ref l4) hW (by decide) (zT_mem 162 (by decide +kernel) rfl) (fun _ _ _ _ => rfl) (by decide +kernel) ?_
      refine zV_blk (pc' := 64) (lo' := [(0, .ref al)]) (st' := [.ref al, .ref l4]) [.aload_n 0] (by decide +kernel) rfl ?_
      refine l_get (idx := 36) (k := 7) (v := .int ((upd (upd A 7 ((((A 7) + 12) - 1) - (((A 7) + 12) - 1) / 12 * 12)) 8 (((upd A 7 ((((A 7) + 12) - 1) - (((A 7) + 12) - 1) / 12 * 12)) 8) - 1)) 7)) hW (by decide) (zT_mem 163 (by decide +kernel) rfl) (fun _ _ _ _ => rfl) (by decide +kernel) ?_
      refine zV_blk (pc' := 68) (lo' := [(0, .ref al)]) (st' := [.null, .int ((upd (upd A 7 ((((A 7) + 12) - 1) - (((A 7) + 12) - 1) / 12 * 12)) 8 (((upd A 7 ((((A 7) + 12) - 1) - (((A 7) + 12) - 1) / 12 * 12)) 8) - 1)) 7), .ref l4]) [.aconst_null] (by decide +kernel) rfl ?_
      obtain ⟨hz, h⟩ := zck_some h
      refine l_vstN hW hz (by decide +kernel) (fun hm hW hFr2 => ?_)
      replace hFr := hFr.tr hFr2; clear hFr2
      refine zV_blk (pc' := 70) (lo' := [(0, .ref al)]) (st' := [.ref al]) [.aload_n 0] (by decide +kernel) rfl ?_
      refine l_get (idx := 39) (k := 8) (v := .int ((upd (upd A 7 ((((A 7) + 12) - 1) - (((A 7) + 12) - 1) / 12 * 12)) 8 (((upd A 7 ((((A 7) + 12) - 1) - (((A 7) + 12) - 1) / 12 * 12)) 8) - 1)) 8)) hW (by decide) (zT_mem 164 (by decide +kernel) rfl) (fun _ _ _ _ => rfl) (by decide +kernel) ?_
      obtain rfl := Option.some.inj h
      exact zV_iret rfl (by decide +kernel) (hQ _ rfl _ _ _ hXX hW hFr)
    · rw [hx] at h; replace h := zOm_some h
      obtain ⟨hz, h⟩ := zck_some h
      refine l_dst hW ho3 hz (by decide +kernel) (fun hm hW hFr2 => ?_)
      replace hFr := hFr.tr hFr2; clear hFr2
      refine zV_blk (pc' := 60) (lo' := [(0, .ref al)]) (st' := [.ref al]) [.aload_n 0] (by decide +kernel) rfl ?_
      refine l_get (idx := 33) (k := 6) (v := .ref l4) hW (by decide) (zT_mem 162 (by decide +kernel) rfl) (fun _ _ _ _ => rfl) (by decide +kernel) ?_
      refine zV_blk (pc' := 64) (lo' := [(0, .ref al)]) (st' := [.ref al, .ref l4]) [.aload_n 0] (by decide +kernel) rfl ?_
      refine l_get (idx := 36) (k := 7) (v := .int ((upd (upd A 7 ((((A 7) + 12) - 1) - (((A 7) + 12) - 1) / 12 * 12)) 8 (((upd A 7 ((((A 7) + 12) - 1) - (((A 7) + 12) - 1) / 12 * 12)) 8) - 1)) 7)) hW (by decide) (zT_mem 163 (by decide +kernel) rfl) (fun _ _ _ _ => rfl) (by decide +kernel) ?_
      refine zV_blk (pc' := 68) (lo' := [(0, .ref al)]) (st' := [.null, .int ((upd (upd A 7 ((((A 7) + 12) - 1) - (((A 7) + 12) - 1) / 12 * 12)) 8 (((upd A 7 ((((A 7) + 12) - 1) - (((A 7) + 12) - 1) / 12 * 12)) 8) - 1)) 7), .ref l4]) [.aconst_null] (by decide +kernel) rfl ?_
      obtain ⟨hz, h⟩ := zck_some h
      refine l_vstN hW hz (by decide +kernel) (fun hm hW hFr2 => ?_)
      replace hFr := hFr.tr hFr2; clear hFr2
      refine zV_blk (pc' := 70) (lo' := [(0, .ref al)]) (st' := [.ref al]) [.aload_n 0] (by decide +kernel) rfl ?_
      refine l_get (idx := 39) (k := 8) (v := .int ((upd (upd A 7 ((((A 7) + 12) - 1) - (((A 7) + 12) - 1) / 12 * 12)) 8 (((upd A 7 ((((A 7) + 12) - 1) - (((A 7) + 12) - 1) / 12 * 12)) 8) - 1)) 8)) hW (by decide) (zT_mem 164 (by decide +kernel) rfl) (fun _ _ _ _ => rfl) (by decide +kernel) ?_
      obtain rfl := Option.some.inj h
      exact zV_iret rfl (by decide +kernel) (hQ _ rfl _ _ _ hXX hW hFr)
  · replace h := zif_pos q h
    clear q
    refine zV_blk (pc' := 9) (lo' := [(0, .ref al)]) (st' := [.int (-3)]) [.bipush (-3)] (by decide +kernel) rfl ?_
    obtain rfl := Option.some.inj h
    exact zV_iret rfl (by decide +kernel) (hQ _ rfl _ _ _ hXX hW hFr)

def w_shift (A : Nat → Int32) (dv : Nat → Option vDes) (cs : Nat → Int32) (cv : Nat → Option vDes) (x1 : Int32) (x2 : Int32) : Option (Int32 × (Nat → Int32) × (Nat → Option vDes) × (Nat → Int32) × (Nat → Option vDes)) := (k_designAt dv x1).bind (fun v1 => zOm (v1) (some ((-2), A, dv, cs, cv)) (fun z3 => zEv z3.2.1 (fun e12 => (if (x2 : Int32) < (0 : Int32) then some ((-2), A, dv, cs, cv) else (if (x2 : Int32) < (e12.2.1 : Int32) then (k_newEven e12.1 e12.2.1 x2).bind (fun v18 => (k_withLaw z3 (.inr (.inl v18))).bind (fun v21 => (w_change  A dv cs cv x1 (some v21)).bind (fun v25 => some (e12.2.2, v25.1, v25.2.1, v25.2.2.1, v25.2.2.2)))) else some ((-2), A, dv, cs, cv)))) (some ((-3), A, dv, cs, cv))))
theorem oX11_shift : zO yX11_shift cX11_shift 6 (some .int) 2 := ⟨zT_mem 740 (by decide +kernel) rfl, zT_mem 89 (by decide +kernel) rfl, by decide +kernel, by decide +kernel, by decide +kernel⟩
set_option maxHeartbeats 4000000 in
set_option maxRecDepth 100000 in
theorem cw_shift (s0 : State) (D : va_G) (X : Nat → Prop) (cB cI cJ cD : ClassId) (al l1 l2 l3 l4 l5 : Nat) (A : Nat → Int32) (tp : Nat → Int32) (dv : Nat → Option vDes) (cs : Nat → Int32) (cv : Nat → Option vDes) (jv : Option vJoint) (bo : Option (Nat → Int32)) (hg : Option (Nat → Int64)) (lw : Option (Nat → Int64)) (sb : vSB) (x1 : Int32) (x2 : Int32) (x : Int32 × (Nat → Int32) × (Nat → Option vDes) × (Nat → Int32) × (Nat → Option vDes)) (h : w_shift A dv cs cv x1 x2 = some x) {hi hm : zHp} {nx : Nat} {Q : Option Value → zHp → zHp → Nat → Prop} (hW : lW X cB cI cJ cD al l1 l2 l3 l4 l5 A tp dv cs cv jv bo hg lw sb hi hm) (hQ0 : ∀ (hi' hm' : zHp) (nx' : Nat), zX hi hi' → lW X cB cI cJ cD al l1 l2 l3 l4 l5 x.2.1 tp x.2.2.1 x.2.2.2.1 x.2.2.2.2 jv bo hg lw sb hi' hm' → lFr X hm hm' → Q (some (.int x.1)) hi' hm' nx') : zM s0 D (zty cB cI cJ cD) yX11_shift cX11_shift 6 (some .int) 3 64 2 6 [.ref al, .int x1, .int x2] hi hm nx Q := by
  have hQ : ∀ r : Int32 × (Nat → Int32) × (Nat → Option vDes) × (Nat → Int32) × (Nat → Option vDes), x = r → ∀ (hi' hm' : zHp) (nx' : Nat), zX hi hi' → lW X cB cI cJ cD al l1 l2 l3 l4 l5 r.2.1 tp r.2.2.1 r.2.2.2.1 r.2.2.2.2 jv bo hg lw sb hi' hm' → lFr X hm hm' → Q (some (.int r.1)) hi' hm' nx' := fun r hr => by subst hr; exact hQ0
  clear hQ0
  have hXX : zX hi hi := zX.rf
  have hFr : lFr X hm hm := lFr.rf
  refine zM_of (by decide +kernel) (Nat.le_of_ble_eq_true rfl) ?_
  unfold w_shift at h
  refine zV_eq (lo2 := [(0, .ref al), (1, .int x1), (2, .int x2)]) rfl rfl rfl rfl ?_
  refine zV_blk (pc' := 2) (lo' := [(0, .ref al), (1, .int x1), (2, .int x2)]) (st' := [.int x1, .ref al]) [.aload_n 0, .iload_n 1] (by decide +kernel) rfl ?_
  obtain ⟨v1, hv1, h⟩ := zbind h
  refine zV_designAt (idx := 105) (rest := []) v1 hv1 hW.ld (zT_mem 603 (by decide +kernel) rfl) rfl (Nat.le_of_ble_eq_true rfl) ⟨by decide, by decide⟩ (by decide +kernel) (fun hx => ?_) (fun b2 z3 hx ho4 => ?_)
  · rw [hx] at h; replace h := zOm_none h
    refine zV_blk (pc' := 7) (lo' := [(3, .null), (0, .ref al), (1, .int x1), (2, .int x2)]) (st' := [.null]) [.astore_n 3, .aload_n 3] (by decide +kernel) rfl ?_
    refine zV_ifnonnull (r := none) (tgt := 13) (off := 6) (by decide +kernel) (by decide) (fun _ q => by cases q) (fun _ => ?_)
    refine zV_less (mc' := 0) (ms' := 0) (by decide) (by decide) ?_
    refine zV_blk (pc' := 12) (lo' := [(3, .null), (0, .ref al), (1, .int x1), (2, .int x2)]) (st' := [.int (-2)]) [.bipush (-2)] (by decide +kernel) rfl ?_
    obtain rfl := Option.some.inj h
    exact zV_iret rfl (by decide +kernel) (hQ _ rfl _ _ _ hXX hW hFr)
  · rw [hx] at h; replace h := zOm_some h
    refine zV_blk (pc' := 7) (lo' := [(3, .ref b2), (0, .ref al), (1, .int x1), (2, .int x2)]) (st' := [.ref b2]) [.astore_n 3, .aload_n 3] (by decide +kernel) rfl ?_
    refine zV_ifnonnull (r := some b2) (tgt := 13) (off := 6) (by decide +kernel) (by decide) (fun _ _ => ?_) (fun q => by cases q)
    refine zV_blk (pc' := 14) (lo' := [(3, .ref b2), (0, .ref al), (1, .int x1), (2, .int x2)]) (st' := [.ref b2]) [.aload_n 3] (by decide +kernel) rfl ?_
    obtain ⟨b5, b6, b7, hc8, hc9, hc10, hc11⟩ := ho4
    refine zV_get (ci := 0) (idx := 95) (k := 1) (N := 3) (fs := [.ref b5, .ref b6, .ref b7]) (v := .ref b6) (Or.inl hc8) rfl z_in0 (by decide) (zT_mem 566 (by decide +kernel) rfl) rfl (by decide +kernel) ?_
    refine zV_blk (pc' := 21) (lo' := [(5, .ref b6), (3, .ref b2), (0, .ref al), (1, .int x1), (2, .int x2)]) (st' := [.ref b6]) [.astore 5, .aload 5] (by decide +kernel) rfl ?_
    have hk14 := hc10
    rcases hg13 : z3.2.1 with u | e12 | e12 | e12
    · rw [hg13] at hk14; replace h := zEv_n hg13 h
      have hk9 := hk14
      refine zV_instNo (ci := 6) (idx := 143) (nm := "LeapDesigner$EvenLaw") (Or.inl hk9) rfl (zT_mem 655 (by decide +kernel) rfl) (by decide +kernel) (by decide +kernel) ?_
      refine zV_if_eq (tgt := 37) (off := 13) (by decide +kernel) (by decide) (fun _ => ?_) (fun q => absurd q (by decide +kernel))
      refine zV_less (mc' := 0) (ms' := 0) (by decide) (by decide) ?_
      refine zV_blk (pc' := 39) (lo' := [(5, .ref b6), (3, .ref b2), (0, .ref al), (1, .int x1), (2, .int x2)]) (st' := [.int (-3)]) [.bipush (-3)] (by decide +kernel) rfl ?_
      obtain rfl := Option.some.inj h
      exact zV_iret rfl (by decide +kernel) (hQ _ rfl _ _ _ hXX hW hFr)
    · rw [hg13] at hk14; replace h := zEv_e hg13 h
      refine zV_instY (ci := 1) (idx := 143) (fs := [.int e12.1, .int e12.2.1, .int e12.2.2]) (Or.inl hk14) rfl (zT_mem 655 (by decide +kernel) rfl) (by decide +kernel) ?_
      refine zV_if_eq (tgt := 37) (off := 13) (by decide +kernel) (by decide) (fun q => absurd q (by decide +kernel)) (fun _ => ?_)
      refine zV_blk (pc' := 29) (lo' := [(5, .ref b6), (3, .ref b2), (0, .ref al), (1, .int x1), (2, .int x2)]) (st' := [.ref b6]) [.aload 5] (by decide +kernel) rfl ?_
      refine zV_castY (ci := 1) (idx := 143) (fs := [.int e12.1, .int e12.2.1, .int e12.2.2]) (Or.inl hk14) rfl (zT_mem 655 (by decide +kernel) rfl) (by decide +kernel) ?_
      refine zV_blk (pc' := 34) (lo' := [(4, .ref b6), (5, .ref b6), (3, .ref b2), (0, .ref al), (1, .int x1), (2, .int x2)]) (st' := []) [.astore 4] (by decide +kernel) rfl ?_
      refine zV_goto (tgt := 40) (off := 6) (by decide +kernel) (by decide) ?_
      refine zV_blk (pc' := 41) (lo' := [(4, .ref b6), (5, .ref b6), (3, .ref b2), (0, .ref al), (1, .int x1), (2, .int x2)]) (st' := [.int x2]) [.iload_n 2] (by decide +kernel) rfl ?_
      refine zV_if_lt (tgt := 53) (off := 12) (by decide +kernel) (by decide) (fun q => ?_) (fun q => ?_)
      · replace h := zif_pos q h
        clear q
        refine zV_less (mc' := 0) (ms' := 0) (by decide) (by decide) ?_
        refine zV_blk (pc' := 55) (lo' := [(4, .ref b6), (5, .ref b6), (3, .ref b2), (0, .ref al), (1, .int x1), (2, .int x2)]) (st' := [.int (-2)]) [.bipush (-2)] (by decide +kernel) rfl ?_
        obtain rfl := Option.some.inj h
        exact zV_iret rfl (by decide +kernel) (hQ _ rfl _ _ _ hXX hW hFr)
      · replace h := zif_neg q h
        clear q
        refine zV_blk (pc' := 47) (lo' := [(4, .ref b6), (5, .ref b6), (3, .ref b2), (0, .ref al), (1, .int x1), (2, .int x2)]) (st' := [.ref b6, .int x2]) [.iload_n 2, .aload 4] (by decide +kernel) rfl ?_
        refine zV_get (ci := 1) (idx := 148) (k := 1) (N := 3) (fs := [.int e12.1, .int e12.2.1, .int e12.2.2]) (v := .int e12.2.1) (Or.inl hk14) rfl z_in1 (by decide) (zT_mem 441 (by decide +kernel) rfl) rfl (by decide +kernel) ?_
        refine zV_icmp_lt (tgt := 56) (off := 6) (by decide +kernel) (by decide) (fun q => ?_) (fun q => ?_)
        · replace h := zif_pos q h
          clear q
          refine zV_blk (pc' := 59) (lo' := [(4, .ref b6), (5, .ref b6), (3, .ref b2), (0, .ref al), (1, .int x1), (2, .int x2)]) (st' := [.ref b2, .int x1, .ref al]) [.aload_n 0, .iload_n 1, .aload_n 3] (by decide +kernel) rfl ?_
          refine zV_newX (mc := 1) (ms := 3) (ci := 1) (idx := 143) (N := 3) (fs := [.int 0, .int 0, .int 0]) tyX1 rfl z_in1 tyX1_ok (zT_mem 655 (by decide +kernel) rfl) (zT_mem 427 (by decide +kernel) rfl) (zT_mem 102 (by decide +kernel) rfl) (fun j hj => by rcases (show j = 0 ∨ j = 1 ∨ j = 2 by omega) with rfl | rfl | rfl <;> rfl) (by decide +kernel) (fun _ hn16 => ?_)
          obtain ⟨b17, heb17⟩ : ∃ z : Nat, z = nx := ⟨_, rfl⟩
          rw [← heb17] at hn16 ⊢
          obtain ⟨nb17, henb17⟩ : ∃ z : Nat, z = b17 + 1 := ⟨_, rfl⟩
          rw [← henb17]; clear henb17 heb17
          refine zV_blk (pc' := 65) (lo' := [(4, .ref b6), (5, .ref b6), (3, .ref b2), (0, .ref al), (1, .int x1), (2, .int x2)]) (st' := [.ref b6, .ref b17, .ref b17, .ref b2, .int x1, .ref al]) [.dup, .aload 4] (by decide +kernel) rfl ?_
          refine zV_get (ci := 1) (idx := 145) (k := 0) (N := 3) (fs := [.int e12.1, .int e12.2.1, .int e12.2.2]) (v := .int e12.1) (Or.inl hk14) rfl z_in1 (by decide) (zT_mem 439 (by decide +kernel) rfl) rfl (by decide +kernel) ?_
          refine zV_blk (pc' := 70) (lo' := [(4, .ref b6), (5, .ref b6), (3, .ref b2), (0, .ref al), (1, .int x1), (2, .int x2)]) (st' := [.ref b6, .int e12.1, .ref b17, .ref b17, .ref b2, .int x1, .ref al]) [.aload 4] (by decide +kernel) rfl ?_
          refine zV_get (ci := 1) (idx := 148) (k := 1) (N := 3) (fs := [.int e12.1, .int e12.2.1, .int e12.2.2]) (v := .int e12.2.1) (Or.inl hk14) rfl z_in1 (by decide) (zT_mem 441 (by decide +kernel) rfl) rfl (by decide +kernel) ?_
          refine zV_blk (pc' := 74) (lo' := [(4, .ref b6), (5, .ref b6), (3, .ref b2), (0, .ref al), (1, .int x1), (2, .int x2)]) (st' := [.int x2, .int e12.2.1, .int e12.1, .ref b17, .ref b17, .ref b2, .int x1, .ref al]) [.iload_n 2] (by decide +kernel) rfl ?_
          obtain ⟨v18, hv18, h⟩ := zbind h
          refine zV_mk (idx := 185) (As := [.int e12.1, .int e12.2.1, .int x2]) (rest := [.ref b17, .ref b2, .int x1, .ref al]) (e := .inr (1, [.int v18.1, .int v18.2.1, .int v18.2.2])) (fun Q2 hQ2 => ck_newEven s0 D cB cI cJ cD e12.1 e12.2.1 x2 b17  v18 hv18  (by simp [va_up]) hQ2) oX1_init rfl (zT_mem 741 (by decide +kernel) rfl) (zT_mem 434 (by decide +kernel) rfl) rfl rfl (Nat.le_of_ble_eq_true rfl) ⟨by decide, by decide⟩ (by decide +kernel) hn16 (fun hi2 hX hc19 => ?_)
          replace hk14 := hX _ _ hk14
          replace hc8 := hX _ _ hc8
          replace hc9 := hc9.mono hX
          replace hc10 := hc10.mono hX
          replace hc11 := hc11.mono hX
          replace hW := hW.mono hX
          replace hXX := hXX.tr hX; clear hX
          have ho20 : iEven hi2 b17 v18 := hc19
          obtain ⟨v21, hv21, h⟩ := zbind h
          refine zV_alV (mc := 0) (ms := 0) (fun hi' v' => ∃ a' : Nat, v' = some (.ref a') ∧ iDes cI hi' a' v21) (idx := 188) (rest := [.int x1, .ref al]) (fs := [.ref b5, .ref b6, .ref b7]) (ci := 0) (fun Q2 hQ2 => ck_withLaw s0 D cB cI cJ cD z3 (.inr (.inl v18)) b2 b17 v21 hv21 ⟨b5, b6, b7, hc8, hc9, hc10, hc11⟩ ho20 (fun a' hi' nx' hX hr => hQ2 _ _ _ hX ⟨a', rfl, hr⟩)) oX0_withLaw (Or.inl hc8) rfl (zT_mem 742 (by decide +kernel) rfl) (zT_mem 743 (by decide +kernel) rfl) (zT_mem 744 (by decide +kernel) rfl) rfl rfl (Nat.le_of_ble_eq_true rfl) ⟨by decide, by decide⟩ (by decide +kernel) ?_
          rintro _ hi2 nx24 hX ⟨b22, rfl, ho23⟩
          replace hk14 := hX _ _ hk14
          replace hc8 := hX _ _ hc8
          replace hc9 := hc9.mono hX
          replace hc10 := hc10.mono hX
          replace hc11 := hc11.mono hX
          replace hW := hW.mono hX
          replace hXX := hXX.tr hX; clear hX
          refine zV_eq (st2 := [.ref b22, .int x1, .ref al]) rfl rfl rfl rfl ?_
          obtain ⟨v25, hv25, h⟩ := zbind h
          refine l_call (mc := 0) (ms := 0) (idx := 91) (As := [.int x1, .ref b22]) (rest := []) hW (fun Q2 hQ2 => cw_change s0 D X cB cI cJ cD al l1 l2 l3 l4 l5 A tp dv cs cv jv bo hg lw sb x1 (some v21) (some b22) v25 hv25 hW (Or.inr ⟨_, _, rfl, rfl, ho23⟩) hQ2) oX11_change rfl (zT_mem 576 (by decide +kernel) rfl) (zT_mem 578 (by decide +kernel) rfl) (zT_mem 10 (by decide +kernel) rfl) rfl rfl (Nat.le_of_ble_eq_true rfl) ⟨by decide, by decide⟩ (by decide +kernel) ?_
          intro hi2 hm2 nx26 hX hW2 hFr2
          replace hk14 := hX _ _ hk14
          replace hc8 := hX _ _ hc8
          replace hc9 := hc9.mono hX
          replace hc10 := hc10.mono hX
          replace hc11 := hc11.mono hX
          clear hW; have hW := hW2; clear hW2
          replace hXX := hXX.tr hX; clear hX
          replace hFr := hFr.tr hFr2; clear hFr2
          refine zV_eq (st2 := []) rfl rfl rfl rfl ?_
          refine zV_blk (pc' := 85) (lo' := [(4, .ref b6), (5, .ref b6), (3, .ref b2), (0, .ref al), (1, .int x1), (2, .int x2)]) (st' := [.ref b6]) [.aload 4] (by decide +kernel) rfl ?_
          refine zV_get (ci := 1) (idx := 151) (k := 2) (N := 3) (fs := [.int e12.1, .int e12.2.1, .int e12.2.2]) (v := .int e12.2.2) (Or.inl hk14) rfl z_in1 (by decide) (zT_mem 443 (by decide +kernel) rfl) rfl (by decide +kernel) ?_
          obtain rfl := Option.some.inj h
          exact zV_iret rfl (by decide +kernel) (hQ _ rfl _ _ _ hXX hW hFr)
        · replace h := zif_neg q h
          clear q
          refine zV_less (mc' := 0) (ms' := 0) (by decide) (by decide) ?_
          refine zV_blk (pc' := 55) (lo' := [(4, .ref b6), (5, .ref b6), (3, .ref b2), (0, .ref al), (1, .int x1), (2, .int x2)]) (st' := [.int (-2)]) [.bipush (-2)] (by decide +kernel) rfl ?_
          obtain rfl := Option.some.inj h
          exact zV_iret rfl (by decide +kernel) (hQ _ rfl _ _ _ hXX hW hFr)
    · rw [hg13] at hk14; replace h := zEv_l hg13 h
      obtain ⟨_, hk9, _⟩ := id hk14
      refine zV_instNo (ci := 5) (idx := 143) (nm := "LeapDesigner$EvenLaw") (Or.inl hk9) rfl (zT_mem 655 (by decide +kernel) rfl) (by decide +kernel) (by decide +kernel) ?_
      refine zV_if_eq (tgt := 37) (off := 13) (by decide +kernel) (by decide) (fun _ => ?_) (fun q => absurd q (by decide +kernel))
      refine zV_less (mc' := 0) (ms' := 0) (by decide) (by decide) ?_
      refine zV_blk (pc' := 39) (lo' := [(5, .ref b6), (3, .ref b2), (0, .ref al), (1, .int x1), (2, .int x2)]) (st' := [.int (-3)]) [.bipush (-3)] (by decide +kernel) rfl ?_
      obtain rfl := Option.some.inj h
      exact zV_iret rfl (by decide +kernel) (hQ _ rfl _ _ _ hXX hW hFr)
    · rw [hg13] at hk14; replace h := zEv_w hg13 h
      obtain ⟨_, hk9, _⟩ := id hk14
      refine zV_instNo (ci := 8) (idx := 143) (nm := "LeapDesigner$EvenLaw") (Or.inl hk9) rfl (zT_mem 655 (by decide +kernel) rfl) (by decide +kernel) (by decide +kernel) ?_
      refine zV_if_eq (tgt := 37) (off := 13) (by decide +kernel) (by decide) (fun _ => ?_) (fun q => absurd q (by decide +kernel))
      refine zV_less (mc' := 0) (ms' := 0) (by decide) (by decide) ?_
      refine zV_blk (pc' := 39) (lo' := [(5, .ref b6), (3, .ref b2), (0, .ref al), (1, .int x1), (2, .int x2)]) (st' := [.int (-3)]) [.bipush (-3)] (by decide +kernel) rfl ?_
      obtain rfl := Option.some.inj h
      exact zV_iret rfl (by decide +kernel) (hQ _ rfl _ _ _ hXX hW hFr)

