def r_readStatement_294 (n : Nat) (R : Nat → Int32) (lv : vLaw) (mo : Option vArr) (ty : vTrue) (F : Nat → Int32) (tp : Nat → Int32) : Option ((Nat → Int32) × (vLaw) × (Option vArr) × (vTrue) × (Nat → Int32)) := (if ((F 1) : Int32) = (4 : Int32) then (n_takeIf n F tp 1).bind (fun v2 => some (R, lv, mo, ty, v2)) else (n_takeIf n F tp 0).bind (fun v1 => some (R, lv, mo, ty, v1)))
set_option maxHeartbeats 4000000 in
set_option maxRecDepth 100000 in
theorem cr_readStatement_294 (s0 : State) (D : va_G) (X : Nat → Prop) (cB cI cJ cD : ClassId) (rA sA tA : Nat) (R : Nat → Int32) (lv : vLaw) (mo : Option vArr) (ty : vTrue) (F : Nat → Int32) (tp : Nat → Int32) (n : Nat) {x : (Nat → Int32) × (vLaw) × (Option vArr) × (vTrue) × (Nat → Int32)} {hi0 hi hm0 hm : zHp} {nx : Nat} {Q : Option Value → zHp → zHp → Nat → Prop} (hW : qW X cB cI rA sA tA R lv mo ty F tp hi hm) (hXX : zX hi0 hi) (hFr : lFr X hm0 hm) (h : r_readStatement_294 n R lv mo ty F tp  = some x) (hQ : ∀ r : (Nat → Int32) × (vLaw) × (Option vArr) × (vTrue) × (Nat → Int32), x = r → ∀ (hi' hm' : zHp) (nx' : Nat), zX hi0 hi' → qW X cB cI rA sA tA r.1 r.2.1 r.2.2.1 r.2.2.2.1 r.2.2.2.2 tp hi' hm' → lFr X hm0 hm' → Q none hi' hm' nx') : zV s0 D (zty cB cI cJ cD) yX7_readStatement cX7_readStatement 2 none 6 133 0 0 294 [(0, .ref rA)] [] hi hm nx Q := by
  unfold r_readStatement_294 at h
  refine zV_blk (pc' := 295) (lo' := [(0, .ref rA)]) (st' := [.ref rA]) [.aload_n 0] (by decide +kernel) rfl ?_
  refine q_get (idx := 56) (k := 0) (v := .ref sA) hW (by decide) (zT_mem 297 (by decide +kernel) rfl) (fun _ _ _ => rfl) (by decide +kernel) ?_
  refine zV_blk (pc' := 299) (lo' := [(0, .ref rA)]) (st' := [.ref rA, .ref sA]) [.aload_n 0] (by decide +kernel) rfl ?_
  refine q_get (idx := 56) (k := 0) (v := .ref sA) hW (by decide) (zT_mem 297 (by decide +kernel) rfl) (fun _ _ _ => rfl) (by decide +kernel) ?_
  refine q_sget (idx := 68) (k := 1) hW (by decide) (zT_mem 230 (by decide +kernel) rfl) (by decide +kernel) ?_
  refine zV_blk (pc' := 306) (lo' := [(0, .ref rA)]) (st' := [.int 4, .int (F 1), .ref sA]) [.iconst 4] (by decide +kernel) rfl ?_
  refine zV_icmp_ne (tgt := 313) (off := 7) (by decide +kernel) (by decide) (fun q => ?_) (fun q => ?_)
  · replace h := zif_neg q h
    clear q
    refine zV_blk (pc' := 314) (lo' := [(0, .ref rA)]) (st' := [.int 0, .ref sA]) [.iconst 0] (by decide +kernel) rfl ?_
    obtain ⟨v1, hv1, h⟩ := zbind h
    refine q_cC (idx := 144) (rest := []) hW (cn_takeIf s0 D cB cI cJ cD sA tA 0 0 F (fun _ => 0) tp (fun _ => 0) (fun _ => 0) n 0 v1 hv1) oX9_takeIf rfl (zT_mem 422 (by decide +kernel) rfl) (zT_mem 423 (by decide +kernel) rfl) (zT_mem 424 (by decide +kernel) rfl) rfl rfl (Nat.le_of_ble_eq_true rfl) ⟨by decide, by decide⟩ (by decide +kernel) (fun hm hW hFr2 => ?_)
    replace hFr := hFr.tr hFr2; clear hFr2
    refine zV_eq (st2 := []) rfl rfl rfl rfl ?_
    obtain rfl := Option.some.inj h
    exact zV_vret rfl (by decide +kernel) (hQ _ rfl _ _ _ hXX hW hFr)
  · replace h := zif_pos q h
    clear q
    refine zV_blk (pc' := 310) (lo' := [(0, .ref rA)]) (st' := [.int 1, .ref sA]) [.iconst 1] (by decide +kernel) rfl ?_
    refine zV_goto (tgt := 314) (off := 4) (by decide +kernel) (by decide) ?_
    obtain ⟨v2, hv2, h⟩ := zbind h
    refine q_cC (idx := 144) (rest := []) hW (cn_takeIf s0 D cB cI cJ cD sA tA 0 0 F (fun _ => 0) tp (fun _ => 0) (fun _ => 0) n 1 v2 hv2) oX9_takeIf rfl (zT_mem 422 (by decide +kernel) rfl) (zT_mem 423 (by decide +kernel) rfl) (zT_mem 424 (by decide +kernel) rfl) rfl rfl (Nat.le_of_ble_eq_true rfl) ⟨by decide, by decide⟩ (by decide +kernel) (fun hm hW hFr2 => ?_)
    replace hFr := hFr.tr hFr2; clear hFr2
    refine zV_eq (st2 := []) rfl rfl rfl rfl ?_
    obtain rfl := Option.some.inj h
    exact zV_vret rfl (by decide +kernel) (hQ _ rfl _ _ _ hXX hW hFr)
def r_readStatement (n : Nat) (R : Nat → Int32) (lv : vLaw) (mo : Option vArr) (ty : vTrue) (F : Nat → Int32) (tp : Nat → Int32) : Option ((Nat → Int32) × (vLaw) × (Option vArr) × (vTrue) × (Nat → Int32)) := (r_opens n R F tp 4 (fun j => L_year.getD j 0) 1).bind (fun v3 => (if v3.1 = true then (n_takeNumber n v3.2.2 tp 1 999).bind (fun v76 => (r_readStatement_294 n (upd v3.2.1 2 v76.1) lv mo ty v76.2 tp  )) else (r_opens n v3.2.1 v3.2.2 tp 5 (fun j => L_extra.getD j 0) 2).bind (fun v7 => (if v7.1 = true then (n_takeNumber n v7.2.2 tp 1 30).bind (fun v75 => (r_readStatement_294 n (upd v7.2.1 3 v75.1) lv mo ty v75.2 tp  )) else (r_opens n v7.2.1 v7.2.2 tp 4 (fun j => L_even.getD j 0) 4).bind (fun v11 => (if v11.1 = true then (r_readShare n v11.2.1 v11.2.2 tp 1000 0).bind (fun v67 => (r_readShift n v67.1 v67.2 tp).bind (fun v70 => (k_newEven (v67.1 10) (v67.1 11) v70.1).bind (fun v72 => (r_readStatement_294 n v67.1 (.inr (.inl v72)) mo ty v70.2 tp  )))) else (r_opens n v11.2.1 v11.2.2 tp 5 (fun j => L_every.getD j 0) 4).bind (fun v15 => (if v15.1 = true then (r_readLadder n lv v15.2.2 tp).bind (fun v65 => (r_readStatement_294 n v15.2.1 v65.1 mo ty v65.2 tp  )) else (r_opens n v15.2.1 v15.2.2 tp 3 (fun j => L_row.getD j 0) 4).bind (fun v19 => (if v19.1 = true then (r_readRow n lv v19.2.2 tp).bind (fun v63 => (r_readStatement_294 n v19.2.1 v63.1 mo ty v63.2 tp  )) else (r_opens n v19.2.1 v19.2.2 tp 6 (fun j => L_months.getD j 0) 8).bind (fun v23 => (if v23.1 = true then (r_readMonths n v23.2.1 mo v23.2.2 tp).bind (fun v61 => (r_readStatement_294 n v61.1 lv v61.2.1 ty v61.2.2 tp  )) else (r_opens n v23.2.1 v23.2.2 tp 4 (fun j => L_week.getD j 0) 16).bind (fun v27 => (if v27.1 = true then (r_readWeek n v27.2.1 v27.2.2 tp).bind (fun v59 => (r_readStatement_294 n v59.1 lv mo ty v59.2 tp  )) else (r_opens n v27.2.1 v27.2.2 tp 4 (fun j => L_true.getD j 0) 32).bind (fun v31 => (if v31.1 = true then (n_takeNumber n v31.2.2 tp 0 999).bind (fun v46 => (n_sees 3 (fun j => L_and.getD j 0) n v46.2 tp).bind (fun v49 => (n_takeIf n v46.2 tp (zb v49)).bind (fun v50 => (r_readShare n v31.2.1 v50 tp 1000000 1).bind (fun v51 => (k_withLength ty v46.1 (v51.1 10) (v51.1 11)).bind (fun v55 => (r_readStatement_294 n v51.1 lv mo v55 v51.2 tp  )))))) else (r_opens n v31.2.1 v31.2.2 tp 6 (fun j => L_begins.getD j 0) 64).bind (fun v35 => (if v35.1 = true then (r_readShare n v35.2.1 v35.2.2 tp 1000 1).bind (fun v38 => (k_withBegin ty (v38.1 10) (v38.1 11)).bind (fun v42 => (r_readStatement_294 n v38.1 lv mo v42 v38.2 tp  ))) else (n_fail v35.2.2 1 (v35.2.2 2)).bind (fun v37 => (r_readStatement_294 n v35.2.1 lv mo ty v37 tp  ))))))))))))))))))))
theorem oX7_readStatement : zO yX7_readStatement cX7_readStatement 2 none 0 := ⟨zT_mem 348 (by decide +kernel) rfl, zT_mem 97 (by decide +kernel) rfl, by decide +kernel, by decide +kernel, by decide +kernel⟩
set_option maxHeartbeats 4000000 in
set_option maxRecDepth 100000 in
theorem cr_readStatement (s0 : State) (D : va_G) (X : Nat → Prop) (cB cI cJ cD : ClassId) (rA sA tA : Nat) (R : Nat → Int32) (lv : vLaw) (mo : Option vArr) (ty : vTrue) (F : Nat → Int32) (tp : Nat → Int32) (n : Nat) (x : (Nat → Int32) × (vLaw) × (Option vArr) × (vTrue) × (Nat → Int32)) (h : r_readStatement n R lv mo ty F tp  = some x) {hi hm : zHp} {nx : Nat} {Q : Option Value → zHp → zHp → Nat → Prop} (hW : qW X cB cI rA sA tA R lv mo ty F tp hi hm) (hQ0 : ∀ (hi' hm' : zHp) (nx' : Nat), zX hi hi' → qW X cB cI rA sA tA x.1 x.2.1 x.2.2.1 x.2.2.2.1 x.2.2.2.2 tp hi' hm' → lFr X hm hm' → Q none hi' hm' nx') : zM s0 D (zty cB cI cJ cD) yX7_readStatement cX7_readStatement 2 none 6 133 3 403 [.ref rA] hi hm nx Q := by
  have hQ : ∀ r : (Nat → Int32) × (vLaw) × (Option vArr) × (vTrue) × (Nat → Int32), x = r → ∀ (hi' hm' : zHp) (nx' : Nat), zX hi hi' → qW X cB cI rA sA tA r.1 r.2.1 r.2.2.1 r.2.2.2.1 r.2.2.2.2 tp hi' hm' → lFr X hm hm' → Q none hi' hm' nx' := fun r hr => by subst hr; exact hQ0
  clear hQ0
  have hXX : zX hi hi := zX.rf
  have hFr : lFr X hm hm := lFr.rf
  refine zM_of (by decide +kernel) (Nat.le_of_ble_eq_true rfl) ?_
  unfold r_readStatement at h
  refine zV_eq (lo2 := [(0, .ref rA)]) rfl rfl rfl rfl ?_
  refine zV_blk (pc' := 1) (lo' := [(0, .ref rA)]) (st' := [.ref rA]) [.aload_n 0] (by decide +kernel) rfl ?_
  refine zl_RX7_95 rfl (by decide +kernel) (fun b1 hw2 => ?_)
  refine zV_blk (pc' := 4) (lo' := [(0, .ref rA)]) (st' := [.int 1, .ref b1, .ref rA]) [.iconst 1] (by decide +kernel) rfl ?_
  obtain ⟨v3, hv3, h⟩ := zbind h
  refine q_call (mc := 3) (ms := 403) (idx := 96) (As := [.ref b1, .int 1]) (rest := []) hW (fun Q2 hQ2 => cr_opens s0 D X cB cI cJ cD rA sA tA R lv mo ty F tp n 4 (fun j => L_year.getD j 0) 1 b1 v3 hv3 hW hw2 hQ2) oX7_opens rfl (zT_mem 350 (by decide +kernel) rfl) (zT_mem 352 (by decide +kernel) rfl) (zT_mem 2 (by decide +kernel) rfl) rfl rfl (Nat.le_of_ble_eq_true rfl) ⟨by decide, by decide⟩ (by decide +kernel) ?_
  intro hi2 hm2 nx4 hX hW2 hFr2
  clear hW; have hW := hW2; clear hW2
  replace hXX := hXX.tr hX; clear hX
  replace hFr := hFr.tr hFr2; clear hFr2
  refine zV_eq (st2 := [.int (zb v3.1)]) rfl rfl rfl rfl ?_
  refine zV_bif_eq (tgt := 28) (off := 21) (by decide +kernel) (by decide) (fun q => ?_) (fun q => ?_)
  · replace h := zif_neg q h
    clear q
    refine zV_blk (pc' := 29) (lo' := [(0, .ref rA)]) (st' := [.ref rA]) [.aload_n 0] (by decide +kernel) rfl ?_
    refine zl_RX7_104 rfl (by decide +kernel) (fun b5 hw6 => ?_)
    refine zV_blk (pc' := 32) (lo' := [(0, .ref rA)]) (st' := [.int 2, .ref b5, .ref rA]) [.iconst 2] (by decide +kernel) rfl ?_
    obtain ⟨v7, hv7, h⟩ := zbind h
    refine q_call (mc := 3) (ms := 403) (idx := 96) (As := [.ref b5, .int 2]) (rest := []) hW (fun Q2 hQ2 => cr_opens s0 D X cB cI cJ cD rA sA tA v3.2.1 lv mo ty v3.2.2 tp n 5 (fun j => L_extra.getD j 0) 2 b5 v7 hv7 hW hw6 hQ2) oX7_opens rfl (zT_mem 350 (by decide +kernel) rfl) (zT_mem 352 (by decide +kernel) rfl) (zT_mem 2 (by decide +kernel) rfl) rfl rfl (Nat.le_of_ble_eq_true rfl) ⟨by decide, by decide⟩ (by decide +kernel) ?_
    intro hi2 hm2 nx8 hX hW2 hFr2
    clear hW; have hW := hW2; clear hW2
    replace hXX := hXX.tr hX; clear hX
    replace hFr := hFr.tr hFr2; clear hFr2
    refine zV_eq (st2 := [.int (zb v7.1)]) rfl rfl rfl rfl ?_
    refine zV_bif_eq (tgt := 55) (off := 20) (by decide +kernel) (by decide) (fun q => ?_) (fun q => ?_)
    · replace h := zif_neg q h
      clear q
      refine zV_blk (pc' := 56) (lo' := [(0, .ref rA)]) (st' := [.ref rA]) [.aload_n 0] (by decide +kernel) rfl ?_
      refine zl_RX7_105 rfl (by decide +kernel) (fun b9 hw10 => ?_)
      refine zV_blk (pc' := 59) (lo' := [(0, .ref rA)]) (st' := [.int 4, .ref b9, .ref rA]) [.iconst 4] (by decide +kernel) rfl ?_
      obtain ⟨v11, hv11, h⟩ := zbind h
      refine q_call (mc := 3) (ms := 403) (idx := 96) (As := [.ref b9, .int 4]) (rest := []) hW (fun Q2 hQ2 => cr_opens s0 D X cB cI cJ cD rA sA tA v7.2.1 lv mo ty v7.2.2 tp n 4 (fun j => L_even.getD j 0) 4 b9 v11 hv11 hW hw10 hQ2) oX7_opens rfl (zT_mem 350 (by decide +kernel) rfl) (zT_mem 352 (by decide +kernel) rfl) (zT_mem 2 (by decide +kernel) rfl) rfl rfl (Nat.le_of_ble_eq_true rfl) ⟨by decide, by decide⟩ (by decide +kernel) ?_
      intro hi2 hm2 nx12 hX hW2 hFr2
      clear hW; have hW := hW2; clear hW2
      replace hXX := hXX.tr hX; clear hX
      replace hFr := hFr.tr hFr2; clear hFr2
      refine zV_eq (st2 := [.int (zb v11.1)]) rfl rfl rfl rfl ?_
      refine zV_bif_eq (tgt := 99) (off := 37) (by decide +kernel) (by decide) (fun q => ?_) (fun q => ?_)
      · replace h := zif_neg q h
        clear q
        refine zV_blk (pc' := 100) (lo' := [(0, .ref rA)]) (st' := [.ref rA]) [.aload_n 0] (by decide +kernel) rfl ?_
        refine zl_RX7_118 rfl (by decide +kernel) (fun b13 hw14 => ?_)
        refine zV_blk (pc' := 103) (lo' := [(0, .ref rA)]) (st' := [.int 4, .ref b13, .ref rA]) [.iconst 4] (by decide +kernel) rfl ?_
        obtain ⟨v15, hv15, h⟩ := zbind h
        refine q_call (mc := 3) (ms := 403) (idx := 96) (As := [.ref b13, .int 4]) (rest := []) hW (fun Q2 hQ2 => cr_opens s0 D X cB cI cJ cD rA sA tA v11.2.1 lv mo ty v11.2.2 tp n 5 (fun j => L_every.getD j 0) 4 b13 v15 hv15 hW hw14 hQ2) oX7_opens rfl (zT_mem 350 (by decide +kernel) rfl) (zT_mem 352 (by decide +kernel) rfl) (zT_mem 2 (by decide +kernel) rfl) rfl rfl (Nat.le_of_ble_eq_true rfl) ⟨by decide, by decide⟩ (by decide +kernel) ?_
        intro hi2 hm2 nx16 hX hW2 hFr2
        clear hW; have hW := hW2; clear hW2
        replace hXX := hXX.tr hX; clear hX
        replace hFr := hFr.tr hFr2; clear hFr2
        refine zV_eq (st2 := [.int (zb v15.1)]) rfl rfl rfl rfl ?_
        refine zV_bif_eq (tgt := 116) (off := 10) (by decide +kernel) (by decide) (fun q => ?_) (fun q => ?_)
        · replace h := zif_neg q h
          clear q
          refine zV_less (mc' := 2) (ms' := 403) (by decide) (by decide) ?_
          refine zV_blk (pc' := 117) (lo' := [(0, .ref rA)]) (st' := [.ref rA]) [.aload_n 0] (by decide +kernel) rfl ?_
          refine zl_RX7_123 rfl (by decide +kernel) (fun b17 hw18 => ?_)
          refine zV_blk (pc' := 120) (lo' := [(0, .ref rA)]) (st' := [.int 4, .ref b17, .ref rA]) [.iconst 4] (by decide +kernel) rfl ?_
          obtain ⟨v19, hv19, h⟩ := zbind h
          refine q_call (mc := 2) (ms := 403) (idx := 96) (As := [.ref b17, .int 4]) (rest := []) hW (fun Q2 hQ2 => cr_opens s0 D X cB cI cJ cD rA sA tA v15.2.1 lv mo ty v15.2.2 tp n 3 (fun j => L_row.getD j 0) 4 b17 v19 hv19 hW hw18 hQ2) oX7_opens rfl (zT_mem 350 (by decide +kernel) rfl) (zT_mem 352 (by decide +kernel) rfl) (zT_mem 2 (by decide +kernel) rfl) rfl rfl (Nat.le_of_ble_eq_true rfl) ⟨by decide, by decide⟩ (by decide +kernel) ?_
          intro hi2 hm2 nx20 hX hW2 hFr2
          clear hW; have hW := hW2; clear hW2
          replace hXX := hXX.tr hX; clear hX
          replace hFr := hFr.tr hFr2; clear hFr2
          refine zV_eq (st2 := [.int (zb v19.1)]) rfl rfl rfl rfl ?_
          refine zV_bif_eq (tgt := 133) (off := 10) (by decide +kernel) (by decide) (fun q => ?_) (fun q => ?_)
          · replace h := zif_neg q h
            clear q
            refine zV_less (mc' := 2) (ms' := 30) (by decide) (by decide) ?_
            refine zV_blk (pc' := 134) (lo' := [(0, .ref rA)]) (st' := [.ref rA]) [.aload_n 0] (by decide +kernel) rfl ?_
            refine zl_RX7_128 rfl (by decide +kernel) (fun b21 hw22 => ?_)
            refine zV_blk (pc' := 138) (lo' := [(0, .ref rA)]) (st' := [.int 8, .ref b21, .ref rA]) [.bipush 8] (by decide +kernel) rfl ?_
            obtain ⟨v23, hv23, h⟩ := zbind h
            refine q_call (mc := 2) (ms := 30) (idx := 96) (As := [.ref b21, .int 8]) (rest := []) hW (fun Q2 hQ2 => cr_opens s0 D X cB cI cJ cD rA sA tA v19.2.1 lv mo ty v19.2.2 tp n 6 (fun j => L_months.getD j 0) 8 b21 v23 hv23 hW hw22 hQ2) oX7_opens rfl (zT_mem 350 (by decide +kernel) rfl) (zT_mem 352 (by decide +kernel) rfl) (zT_mem 2 (by decide +kernel) rfl) rfl rfl (Nat.le_of_ble_eq_true rfl) ⟨by decide, by decide⟩ (by decide +kernel) ?_
            intro hi2 hm2 nx24 hX hW2 hFr2
            clear hW; have hW := hW2; clear hW2
            replace hXX := hXX.tr hX; clear hX
            replace hFr := hFr.tr hFr2; clear hFr2
            refine zV_eq (st2 := [.int (zb v23.1)]) rfl rfl rfl rfl ?_
            refine zV_bif_eq (tgt := 151) (off := 10) (by decide +kernel) (by decide) (fun q => ?_) (fun q => ?_)
            · replace h := zif_neg q h
              clear q
              refine zV_less (mc' := 1) (ms' := 5) (by decide) (by decide) ?_
              refine zV_blk (pc' := 152) (lo' := [(0, .ref rA)]) (st' := [.ref rA]) [.aload_n 0] (by decide +kernel) rfl ?_
              refine zl_RX7_132 rfl (by decide +kernel) (fun b25 hw26 => ?_)
              refine zV_blk (pc' := 156) (lo' := [(0, .ref rA)]) (st' := [.int 16, .ref b25, .ref rA]) [.bipush 16] (by decide +kernel) rfl ?_
              obtain ⟨v27, hv27, h⟩ := zbind h
              refine q_call (mc := 1) (ms := 5) (idx := 96) (As := [.ref b25, .int 16]) (rest := []) hW (fun Q2 hQ2 => cr_opens s0 D X cB cI cJ cD rA sA tA v23.2.1 lv mo ty v23.2.2 tp n 4 (fun j => L_week.getD j 0) 16 b25 v27 hv27 hW hw26 hQ2) oX7_opens rfl (zT_mem 350 (by decide +kernel) rfl) (zT_mem 352 (by decide +kernel) rfl) (zT_mem 2 (by decide +kernel) rfl) rfl rfl (Nat.le_of_ble_eq_true rfl) ⟨by decide, by decide⟩ (by decide +kernel) ?_
              intro hi2 hm2 nx28 hX hW2 hFr2
              clear hW; have hW := hW2; clear hW2
              replace hXX := hXX.tr hX; clear hX
              replace hFr := hFr.tr hFr2; clear hFr2
              refine zV_eq (st2 := [.int (zb v27.1)]) rfl rfl rfl rfl ?_
              refine zV_bif_eq (tgt := 169) (off := 10) (by decide +kernel) (by decide) (fun q => ?_) (fun q => ?_)
              · replace h := zif_neg q h
                clear q
                refine zV_blk (pc' := 170) (lo' := [(0, .ref rA)]) (st' := [.ref rA]) [.aload_n 0] (by decide +kernel) rfl ?_
                refine zl_RX7_136 rfl (by decide +kernel) (fun b29 hw30 => ?_)
                refine zV_blk (pc' := 174) (lo' := [(0, .ref rA)]) (st' := [.int 32, .ref b29, .ref rA]) [.bipush 32] (by decide +kernel) rfl ?_
                obtain ⟨v31, hv31, h⟩ := zbind h
                refine q_call (mc := 1) (ms := 5) (idx := 96) (As := [.ref b29, .int 32]) (rest := []) hW (fun Q2 hQ2 => cr_opens s0 D X cB cI cJ cD rA sA tA v27.2.1 lv mo ty v27.2.2 tp n 4 (fun j => L_true.getD j 0) 32 b29 v31 hv31 hW hw30 hQ2) oX7_opens rfl (zT_mem 350 (by decide +kernel) rfl) (zT_mem 352 (by decide +kernel) rfl) (zT_mem 2 (by decide +kernel) rfl) rfl rfl (Nat.le_of_ble_eq_true rfl) ⟨by decide, by decide⟩ (by decide +kernel) ?_
                intro hi2 hm2 nx32 hX hW2 hFr2
                clear hW; have hW := hW2; clear hW2
                replace hXX := hXX.tr hX; clear hX
                replace hFr := hFr.tr hFr2; clear hFr2
                refine zV_eq (st2 := [.int (zb v31.1)]) rfl rfl rfl rfl ?_
                refine zV_bif_eq (tgt := 238) (off := 61) (by decide +kernel) (by decide) (fun q => ?_) (fun q => ?_)
                · replace h := zif_neg q h
                  clear q
                  refine zV_blk (pc' := 239) (lo' := [(0, .ref rA)]) (st' := [.ref rA]) [.aload_n 0] (by decide +kernel) rfl ?_
                  refine zl_RX7_153 rfl (by decide +kernel) (fun b33 hw34 => ?_)
                  refine zV_blk (pc' := 243) (lo' := [(0, .ref rA)]) (st' := [.int 64, .ref b33, .ref rA]) [.bipush 64] (by decide +kernel) rfl ?_
                  obtain ⟨v35, hv35, h⟩ := zbind h
                  refine q_call (mc := 1) (ms := 5) (idx := 96) (As := [.ref b33, .int 64]) (rest := []) hW (fun Q2 hQ2 => cr_opens s0 D X cB cI cJ cD rA sA tA v31.2.1 lv mo ty v31.2.2 tp n 6 (fun j => L_begins.getD j 0) 64 b33 v35 hv35 hW hw34 hQ2) oX7_opens rfl (zT_mem 350 (by decide +kernel) rfl) (zT_mem 352 (by decide +kernel) rfl) (zT_mem 2 (by decide +kernel) rfl) rfl rfl (Nat.le_of_ble_eq_true rfl) ⟨by decide, by decide⟩ (by decide +kernel) ?_
                  intro hi2 hm2 nx36 hX hW2 hFr2
                  clear hW; have hW := hW2; clear hW2
                  replace hXX := hXX.tr hX; clear hX
                  replace hFr := hFr.tr hFr2; clear hFr2
                  refine zV_eq (st2 := [.int (zb v35.1)]) rfl rfl rfl rfl ?_
                  refine zV_bif_eq (tgt := 279) (off := 33) (by decide +kernel) (by decide) (fun q => ?_) (fun q => ?_)
                  · replace h := zif_neg q h
                    clear q
                    refine zV_less (mc' := 0) (ms' := 0) (by decide) (by decide) ?_
                    refine zV_blk (pc' := 280) (lo' := [(0, .ref rA)]) (st' := [.ref rA]) [.aload_n 0] (by decide +kernel) rfl ?_
                    refine q_get (idx := 56) (k := 0) (v := .ref sA) hW (by decide) (zT_mem 297 (by decide +kernel) rfl) (fun _ _ _ => rfl) (by decide +kernel) ?_
                    refine zV_blk (pc' := 285) (lo' := [(0, .ref rA)]) (st' := [.ref rA, .int 1, .ref sA]) [.iconst 1, .aload_n 0] (by decide +kernel) rfl ?_
                    refine q_get (idx := 56) (k := 0) (v := .ref sA) hW (by decide) (zT_mem 297 (by decide +kernel) rfl) (fun _ _ _ => rfl) (by decide +kernel) ?_
                    refine q_sget (idx := 159) (k := 2) hW (by decide) (zT_mem 232 (by decide +kernel) rfl) (by decide +kernel) ?_
                    obtain ⟨v37, hv37, h⟩ := zbind h
                    refine q_cC (idx := 81) (rest := []) hW (cn_fail s0 D cB cI cJ cD sA tA 0 0 v35.2.2 (fun _ => 0) tp (fun _ => 0) (fun _ => 0) 1 (v35.2.2 2) v37 hv37) oX9_fail rfl (zT_mem 405 (by decide +kernel) rfl) (zT_mem 406 (by decide +kernel) rfl) (zT_mem 407 (by decide +kernel) rfl) rfl rfl (Nat.le_of_ble_eq_true rfl) ⟨by decide, by decide⟩ (by decide +kernel) (fun hm hW hFr2 => ?_)
                    replace hFr := hFr.tr hFr2; clear hFr2
                    refine zV_eq (st2 := []) rfl rfl rfl rfl ?_
                    refine zV_pick (lo2 := [(0, .ref rA)]) [0] rfl ?_
                    exact cr_readStatement_294 s0 D X cB cI cJ cD rA sA tA v35.2.1 lv mo ty v37 tp n    hW  hXX hFr h hQ
                  · replace h := zif_pos q h
                    clear q
                    refine zV_blk (pc' := 254) (lo' := [(0, .ref rA)]) (st' := [.int 1, .int 1000, .ref rA]) [.aload_n 0, .sipush 1000, .iconst 1] (by decide +kernel) rfl ?_
                    obtain ⟨v38, hv38, h⟩ := zbind h
                    refine q_call (mc := 1) (ms := 5) (idx := 107) (As := [.int 1000, .int 1]) (rest := []) hW (fun Q2 hQ2 => cr_readShare s0 D X cB cI cJ cD rA sA tA v35.2.1 lv mo ty v35.2.2 tp n 1000 1  v38 hv38 hW  hQ2) oX7_readShare rfl (zT_mem 417 (by decide +kernel) rfl) (zT_mem 419 (by decide +kernel) rfl) (zT_mem 3 (by decide +kernel) rfl) rfl rfl (Nat.le_of_ble_eq_true rfl) ⟨by decide, by decide⟩ (by decide +kernel) ?_
                    intro hi2 hm2 nx39 hX hW2 hFr2
                    clear hW; have hW := hW2; clear hW2
                    replace hXX := hXX.tr hX; clear hX
                    replace hFr := hFr.tr hFr2; clear hFr2
                    refine zV_eq (st2 := []) rfl rfl rfl rfl ?_
                    refine zV_blk (pc' := 259) (lo' := [(0, .ref rA)]) (st' := [.ref rA, .ref rA]) [.aload_n 0, .aload_n 0] (by decide +kernel) rfl ?_
                    refine q_getT (idx := 46) hW (zT_mem 306 (by decide +kernel) rfl) (by decide +kernel) (fun b40 ho41 => ?_)
                    refine zV_blk (pc' := 263) (lo' := [(0, .ref rA)]) (st' := [.ref rA, .ref b40, .ref rA]) [.aload_n 0] (by decide +kernel) rfl ?_
                    refine q_get (idx := 50) (k := 10) (v := .int (v38.1 10)) hW (by decide) (zT_mem 307 (by decide +kernel) rfl) (fun _ _ _ => rfl) (by decide +kernel) ?_
                    refine zV_blk (pc' := 267) (lo' := [(0, .ref rA)]) (st' := [.ref rA, .int (v38.1 10), .ref b40, .ref rA]) [.aload_n 0] (by decide +kernel) rfl ?_
                    refine q_get (idx := 53) (k := 11) (v := .int (v38.1 11)) hW (by decide) (zT_mem 308 (by decide +kernel) rfl) (fun _ _ _ => rfl) (by decide +kernel) ?_
                    obtain ⟨v42, hv42, h⟩ := zbind h
                    refine zV_alV (mc := 0) (ms := 0) (fun hi' v' => ∃ a' : Nat, v' = some (.ref a') ∧ iTrue hi' a' v42) (idx := 155) (rest := [.ref rA]) (fs := [.int ty.1, .int ty.2.1, .int ty.2.2.1, .int ty.2.2.2.1, .int ty.2.2.2.2]) (ci := 10) (fun Q2 hQ2 => ck_withBegin s0 D cB cI cJ cD ty (v38.1 10) (v38.1 11) b40 v42 hv42 ho41 (fun a' hi' nx' hX hr => hQ2 _ _ _ hX ⟨a', rfl, hr⟩)) oX10_withBegin (Or.inl ho41) rfl (zT_mem 515 (by decide +kernel) rfl) (zT_mem 516 (by decide +kernel) rfl) (zT_mem 517 (by decide +kernel) rfl) rfl rfl (Nat.le_of_ble_eq_true rfl) ⟨by decide, by decide⟩ (by decide +kernel) ?_
                    rintro _ hi2 nx45 hX ⟨b43, rfl, ho44⟩
                    replace hW := hW.mono hX
                    replace hXX := hXX.tr hX; clear hX
                    refine zV_eq (st2 := [.ref b43, .ref rA]) rfl rfl rfl rfl ?_
                    refine q_putT (idx := 46) (z := v42) hW ho44 (zT_mem 306 (by decide +kernel) rfl) (by decide +kernel) (fun hm hW hFr2 => ?_)
                    replace hFr := hFr.tr hFr2; clear hFr2
                    refine zV_goto (tgt := 294) (off := 18) (by decide +kernel) (by decide) ?_
                    refine zV_pick (lo2 := [(0, .ref rA)]) [0] rfl ?_
                    exact cr_readStatement_294 s0 D X cB cI cJ cD rA sA tA v38.1 lv mo v42 v38.2 tp n    hW  hXX hFr h hQ
                · replace h := zif_pos q h
                  clear q
                  refine zV_blk (pc' := 181) (lo' := [(0, .ref rA)]) (st' := [.ref rA]) [.aload_n 0] (by decide +kernel) rfl ?_
                  refine q_get (idx := 56) (k := 0) (v := .ref sA) hW (by decide) (zT_mem 297 (by decide +kernel) rfl) (fun _ _ _ => rfl) (by decide +kernel) ?_
                  refine zV_blk (pc' := 188) (lo' := [(0, .ref rA)]) (st' := [.int 999, .int 0, .ref sA]) [.iconst 0, .sipush 999] (by decide +kernel) rfl ?_
                  obtain ⟨v46, hv46, h⟩ := zbind h
                  refine q_cC (idx := 100) (rest := []) hW (cn_takeNumber s0 D cB cI cJ cD sA tA 0 0 v31.2.2 (fun _ => 0) tp (fun _ => 0) (fun _ => 0) n 0 999 v46 hv46) oX9_takeNumber rfl (zT_mem 409 (by decide +kernel) rfl) (zT_mem 410 (by decide +kernel) rfl) (zT_mem 411 (by decide +kernel) rfl) rfl rfl (Nat.le_of_ble_eq_true rfl) ⟨by decide, by decide⟩ (by decide +kernel) (fun hm hW hFr2 => ?_)
                  replace hFr := hFr.tr hFr2; clear hFr2
                  refine zV_eq (st2 := [.int v46.1]) rfl rfl rfl rfl ?_
                  refine zV_blk (pc' := 193) (lo' := [(1, .int v46.1), (0, .ref rA)]) (st' := [.ref rA]) [.istore_n 1, .aload_n 0] (by decide +kernel) rfl ?_
                  refine q_get (idx := 56) (k := 0) (v := .ref sA) hW (by decide) (zT_mem 297 (by decide +kernel) rfl) (fun _ _ _ => rfl) (by decide +kernel) ?_
                  refine zV_blk (pc' := 197) (lo' := [(1, .int v46.1), (0, .ref rA)]) (st' := [.ref rA, .ref sA]) [.aload_n 0] (by decide +kernel) rfl ?_
                  refine q_get (idx := 56) (k := 0) (v := .ref sA) hW (by decide) (zT_mem 297 (by decide +kernel) rfl) (fun _ _ _ => rfl) (by decide +kernel) ?_
                  refine zl_RX7_138 rfl (by decide +kernel) (fun b47 hw48 => ?_)
                  obtain ⟨v49, hv49, h⟩ := zbind h
                  refine q_cR (idx := 140) (rest := [.ref sA]) hW (cn_sees b47 3 (fun j => L_and.getD j 0) hw48 D cB cI cJ cD sA tA 0 0 v46.2 (fun _ => 0) tp (fun _ => 0) (fun _ => 0) n v49 hv49) oX9_sees rfl (zT_mem 354 (by decide +kernel) rfl) (zT_mem 355 (by decide +kernel) rfl) (zT_mem 356 (by decide +kernel) rfl) rfl rfl (Nat.le_of_ble_eq_true rfl) ⟨by decide, by decide⟩ (by decide +kernel) ?_
                  refine zV_eq (st2 := [.int (zb v49), .ref sA]) rfl rfl rfl rfl ?_
                  obtain ⟨v50, hv50, h⟩ := zbind h
                  refine q_cC (idx := 144) (rest := []) hW (cn_takeIf s0 D cB cI cJ cD sA tA 0 0 v46.2 (fun _ => 0) tp (fun _ => 0) (fun _ => 0) n (zb v49) v50 hv50) oX9_takeIf rfl (zT_mem 422 (by decide +kernel) rfl) (zT_mem 423 (by decide +kernel) rfl) (zT_mem 424 (by decide +kernel) rfl) rfl rfl (Nat.le_of_ble_eq_true rfl) ⟨by decide, by decide⟩ (by decide +kernel) (fun hm hW hFr2 => ?_)
                  replace hFr := hFr.tr hFr2; clear hFr2
                  refine zV_eq (st2 := []) rfl rfl rfl rfl ?_
                  refine zV_blk (pc' := 209) (lo' := [(1, .int v46.1), (0, .ref rA)]) (st' := [.ref rA]) [.aload_n 0] (by decide +kernel) rfl ?_
                  refine zV_ldc (idx := 148) (v := 1000000) (zT_mem 507 (by decide +kernel) rfl) (by decide +kernel) ?_
                  refine zV_blk (pc' := 212) (lo' := [(1, .int v46.1), (0, .ref rA)]) (st' := [.int 1, .int 1000000, .ref rA]) [.iconst 1] (by decide +kernel) rfl ?_
                  obtain ⟨v51, hv51, h⟩ := zbind h
                  refine q_call (mc := 1) (ms := 5) (idx := 107) (As := [.int 1000000, .int 1]) (rest := []) hW (fun Q2 hQ2 => cr_readShare s0 D X cB cI cJ cD rA sA tA v31.2.1 lv mo ty v50 tp n 1000000 1  v51 hv51 hW  hQ2) oX7_readShare rfl (zT_mem 417 (by decide +kernel) rfl) (zT_mem 419 (by decide +kernel) rfl) (zT_mem 3 (by decide +kernel) rfl) rfl rfl (Nat.le_of_ble_eq_true rfl) ⟨by decide, by decide⟩ (by decide +kernel) ?_
                  intro hi2 hm2 nx52 hX hW2 hFr2
                  clear hW; have hW := hW2; clear hW2
                  replace hXX := hXX.tr hX; clear hX
                  replace hFr := hFr.tr hFr2; clear hFr2
                  refine zV_eq (st2 := []) rfl rfl rfl rfl ?_
                  refine zV_blk (pc' := 217) (lo' := [(1, .int v46.1), (0, .ref rA)]) (st' := [.ref rA, .ref rA]) [.aload_n 0, .aload_n 0] (by decide +kernel) rfl ?_
                  refine q_getT (idx := 46) hW (zT_mem 306 (by decide +kernel) rfl) (by decide +kernel) (fun b53 ho54 => ?_)
                  refine zV_blk (pc' := 222) (lo' := [(1, .int v46.1), (0, .ref rA)]) (st' := [.ref rA, .int v46.1, .ref b53, .ref rA]) [.iload_n 1, .aload_n 0] (by decide +kernel) rfl ?_
                  refine q_get (idx := 50) (k := 10) (v := .int (v51.1 10)) hW (by decide) (zT_mem 307 (by decide +kernel) rfl) (fun _ _ _ => rfl) (by decide +kernel) ?_
                  refine zV_blk (pc' := 226) (lo' := [(1, .int v46.1), (0, .ref rA)]) (st' := [.ref rA, .int (v51.1 10), .int v46.1, .ref b53, .ref rA]) [.aload_n 0] (by decide +kernel) rfl ?_
                  refine q_get (idx := 53) (k := 11) (v := .int (v51.1 11)) hW (by decide) (zT_mem 308 (by decide +kernel) rfl) (fun _ _ _ => rfl) (by decide +kernel) ?_
                  obtain ⟨v55, hv55, h⟩ := zbind h
                  refine zV_alV (mc := 0) (ms := 0) (fun hi' v' => ∃ a' : Nat, v' = some (.ref a') ∧ iTrue hi' a' v55) (idx := 149) (rest := [.ref rA]) (fs := [.int ty.1, .int ty.2.1, .int ty.2.2.1, .int ty.2.2.2.1, .int ty.2.2.2.2]) (ci := 10) (fun Q2 hQ2 => ck_withLength s0 D cB cI cJ cD ty v46.1 (v51.1 10) (v51.1 11) b53 v55 hv55 ho54 (fun a' hi' nx' hX hr => hQ2 _ _ _ hX ⟨a', rfl, hr⟩)) oX10_withLength (Or.inl ho54) rfl (zT_mem 508 (by decide +kernel) rfl) (zT_mem 509 (by decide +kernel) rfl) (zT_mem 510 (by decide +kernel) rfl) rfl rfl (Nat.le_of_ble_eq_true rfl) ⟨by decide, by decide⟩ (by decide +kernel) ?_
                  rintro _ hi2 nx58 hX ⟨b56, rfl, ho57⟩
                  replace hW := hW.mono hX
                  replace hXX := hXX.tr hX; clear hX
                  refine zV_eq (st2 := [.ref b56, .ref rA]) rfl rfl rfl rfl ?_
                  refine q_putT (idx := 46) (z := v55) hW ho57 (zT_mem 306 (by decide +kernel) rfl) (by decide +kernel) (fun hm hW hFr2 => ?_)
                  replace hFr := hFr.tr hFr2; clear hFr2
                  refine zV_goto (tgt := 294) (off := 59) (by decide +kernel) (by decide) ?_
                  refine zV_pick (lo2 := [(0, .ref rA)]) [1] rfl ?_
                  exact cr_readStatement_294 s0 D X cB cI cJ cD rA sA tA v51.1 lv mo v55 v51.2 tp n    hW  hXX hFr h hQ
              · replace h := zif_pos q h
                clear q
                refine zV_less (mc' := 0) (ms' := 0) (by decide) (by decide) ?_
                refine zV_blk (pc' := 163) (lo' := [(0, .ref rA)]) (st' := [.ref rA]) [.aload_n 0] (by decide +kernel) rfl ?_
                obtain ⟨v59, hv59, h⟩ := zbind h
                refine q_call (mc := 0) (ms := 0) (idx := 133) (As := []) (rest := []) hW (fun Q2 hQ2 => cr_readWeek s0 D X cB cI cJ cD rA sA tA v27.2.1 lv mo ty v27.2.2 tp n   v59 hv59 hW  hQ2) oX7_readWeek rfl (zT_mem 500 (by decide +kernel) rfl) (zT_mem 502 (by decide +kernel) rfl) (zT_mem 8 (by decide +kernel) rfl) rfl rfl (Nat.le_of_ble_eq_true rfl) ⟨by decide, by decide⟩ (by decide +kernel) ?_
                intro hi2 hm2 nx60 hX hW2 hFr2
                clear hW; have hW := hW2; clear hW2
                replace hXX := hXX.tr hX; clear hX
                replace hFr := hFr.tr hFr2; clear hFr2
                refine zV_eq (st2 := []) rfl rfl rfl rfl ?_
                refine zV_goto (tgt := 294) (off := 128) (by decide +kernel) (by decide) ?_
                refine zV_pick (lo2 := [(0, .ref rA)]) [0] rfl ?_
                exact cr_readStatement_294 s0 D X cB cI cJ cD rA sA tA v59.1 lv mo ty v59.2 tp n    hW  hXX hFr h hQ
            · replace h := zif_pos q h
              clear q
              refine zV_blk (pc' := 145) (lo' := [(0, .ref rA)]) (st' := [.ref rA]) [.aload_n 0] (by decide +kernel) rfl ?_
              obtain ⟨v61, hv61, h⟩ := zbind h
              refine q_call (mc := 0) (ms := 0) (idx := 129) (As := []) (rest := []) hW (fun Q2 hQ2 => cr_readMonths s0 D X cB cI cJ cD rA sA tA v23.2.1 lv mo ty v23.2.2 tp n   v61 hv61 hW  hQ2) oX7_readMonths rfl (zT_mem 494 (by decide +kernel) rfl) (zT_mem 496 (by decide +kernel) rfl) (zT_mem 7 (by decide +kernel) rfl) rfl rfl (Nat.le_of_ble_eq_true rfl) ⟨by decide, by decide⟩ (by decide +kernel) ?_
              intro hi2 hm2 nx62 hX hW2 hFr2
              clear hW; have hW := hW2; clear hW2
              replace hXX := hXX.tr hX; clear hX
              replace hFr := hFr.tr hFr2; clear hFr2
              refine zV_eq (st2 := []) rfl rfl rfl rfl ?_
              refine zV_goto (tgt := 294) (off := 146) (by decide +kernel) (by decide) ?_
              refine zV_pick (lo2 := [(0, .ref rA)]) [0] rfl ?_
              exact cr_readStatement_294 s0 D X cB cI cJ cD rA sA tA v61.1 lv v61.2.1 ty v61.2.2 tp n    hW  hXX hFr h hQ
          · replace h := zif_pos q h
            clear q
            refine zV_blk (pc' := 127) (lo' := [(0, .ref rA)]) (st' := [.ref rA]) [.aload_n 0] (by decide +kernel) rfl ?_
            obtain ⟨v63, hv63, h⟩ := zbind h
            refine q_call (mc := 0) (ms := 0) (idx := 125) (As := []) (rest := []) hW (fun Q2 hQ2 => cr_readRow s0 D X cB cI cJ cD rA sA tA v19.2.1 lv mo ty v19.2.2 tp n   v63 hv63 hW  hQ2) oX7_readRow rfl (zT_mem 476 (by decide +kernel) rfl) (zT_mem 478 (by decide +kernel) rfl) (zT_mem 6 (by decide +kernel) rfl) rfl rfl (Nat.le_of_ble_eq_true rfl) ⟨by decide, by decide⟩ (by decide +kernel) ?_
            intro hi2 hm2 nx64 hX hW2 hFr2
            clear hW; have hW := hW2; clear hW2
            replace hXX := hXX.tr hX; clear hX
            replace hFr := hFr.tr hFr2; clear hFr2
            refine zV_eq (st2 := []) rfl rfl rfl rfl ?_
            refine zV_goto (tgt := 294) (off := 164) (by decide +kernel) (by decide) ?_
            refine zV_pick (lo2 := [(0, .ref rA)]) [0] rfl ?_
            exact cr_readStatement_294 s0 D X cB cI cJ cD rA sA tA v19.2.1 v63.1 mo ty v63.2 tp n    hW  hXX hFr h hQ
        · replace h := zif_pos q h
          clear q
          refine zV_less (mc' := 3) (ms' := 22) (by decide) (by decide) ?_
          refine zV_blk (pc' := 110) (lo' := [(0, .ref rA)]) (st' := [.ref rA]) [.aload_n 0] (by decide +kernel) rfl ?_
          obtain ⟨v65, hv65, h⟩ := zbind h
          refine q_call (mc := 0) (ms := 0) (idx := 120) (As := []) (rest := []) hW (fun Q2 hQ2 => cr_readLadder s0 D X cB cI cJ cD rA sA tA v15.2.1 lv mo ty v15.2.2 tp n   v65 hv65 hW  hQ2) oX7_readLadder rfl (zT_mem 452 (by decide +kernel) rfl) (zT_mem 454 (by decide +kernel) rfl) (zT_mem 5 (by decide +kernel) rfl) rfl rfl (Nat.le_of_ble_eq_true rfl) ⟨by decide, by decide⟩ (by decide +kernel) ?_
          intro hi2 hm2 nx66 hX hW2 hFr2
          clear hW; have hW := hW2; clear hW2
          replace hXX := hXX.tr hX; clear hX
          replace hFr := hFr.tr hFr2; clear hFr2
          refine zV_eq (st2 := []) rfl rfl rfl rfl ?_
          refine zV_goto (tgt := 294) (off := 181) (by decide +kernel) (by decide) ?_
          refine zV_pick (lo2 := [(0, .ref rA)]) [0] rfl ?_
          exact cr_readStatement_294 s0 D X cB cI cJ cD rA sA tA v15.2.1 v65.1 mo ty v65.2 tp n    hW  hXX hFr h hQ
      · replace h := zif_pos q h
        clear q
        refine zV_less (mc' := 1) (ms' := 3) (by decide) (by decide) ?_
        refine zV_blk (pc' := 70) (lo' := [(0, .ref rA)]) (st' := [.int 0, .int 1000, .ref rA]) [.aload_n 0, .sipush 1000, .iconst 0] (by decide +kernel) rfl ?_
        obtain ⟨v67, hv67, h⟩ := zbind h
        refine q_call (mc := 1) (ms := 3) (idx := 107) (As := [.int 1000, .int 0]) (rest := []) hW (fun Q2 hQ2 => cr_readShare s0 D X cB cI cJ cD rA sA tA v11.2.1 lv mo ty v11.2.2 tp n 1000 0  v67 hv67 hW  hQ2) oX7_readShare rfl (zT_mem 417 (by decide +kernel) rfl) (zT_mem 419 (by decide +kernel) rfl) (zT_mem 3 (by decide +kernel) rfl) rfl rfl (Nat.le_of_ble_eq_true rfl) ⟨by decide, by decide⟩ (by decide +kernel) ?_
        intro hi2 hm2 nx68 hX hW2 hFr2
        clear hW; have hW := hW2; clear hW2
        replace hXX := hXX.tr hX; clear hX
        replace hFr := hFr.tr hFr2; clear hFr2
        refine zV_eq (st2 := []) rfl rfl rfl rfl ?_
        refine zV_blk (pc' := 74) (lo' := [(0, .ref rA)]) (st' := [.ref rA]) [.aload_n 0] (by decide +kernel) rfl ?_
        refine qo_new (mc := 0) (ms := 0) (ci := 1) (idx := 110) (N := 3) (fs := [.int 0, .int 0, .int 0]) tyX1 hW rfl z_in1 tyX1_ok (zT_mem 426 (by decide +kernel) rfl) (zT_mem 427 (by decide +kernel) rfl) (zT_mem 102 (by decide +kernel) rfl) (fun j hj => by rcases (show j = 0 ∨ j = 1 ∨ j = 2 by omega) with rfl | rfl | rfl <;> rfl) (by decide +kernel) (fun hm2 nxb69 b69 hO hFr2 => ?_)
        replace hFr := hFr.tr hFr2; clear hFr2
        clear hW; obtain ⟨hW, hcb69, hxb69, hnb69⟩ := hO
        refine zV_blk (pc' := 79) (lo' := [(0, .ref rA)]) (st' := [.ref rA, .ref b69, .ref b69, .ref rA]) [.dup, .aload_n 0] (by decide +kernel) rfl ?_
        refine q_get (idx := 50) (k := 10) (v := .int (v67.1 10)) hW (by decide) (zT_mem 307 (by decide +kernel) rfl) (fun _ _ _ => rfl) (by decide +kernel) ?_
        refine zV_blk (pc' := 83) (lo' := [(0, .ref rA)]) (st' := [.ref rA, .int (v67.1 10), .ref b69, .ref b69, .ref rA]) [.aload_n 0] (by decide +kernel) rfl ?_
        refine q_get (idx := 53) (k := 11) (v := .int (v67.1 11)) hW (by decide) (zT_mem 308 (by decide +kernel) rfl) (fun _ _ _ => rfl) (by decide +kernel) ?_
        refine zV_blk (pc' := 87) (lo' := [(0, .ref rA)]) (st' := [.ref rA, .int (v67.1 11), .int (v67.1 10), .ref b69, .ref b69, .ref rA]) [.aload_n 0] (by decide +kernel) rfl ?_
        obtain ⟨v70, hv70, h⟩ := zbind h
        refine q_call (mc := 0) (ms := 0) (idx := 112) (As := []) (rest := [.int (v67.1 11), .int (v67.1 10), .ref b69, .ref b69, .ref rA]) hW (fun Q2 hQ2 => cr_readShift s0 D (xA X b69) cB cI cJ cD rA sA tA v67.1 lv mo ty v67.2 tp n   v70 hv70 hW  hQ2) oX7_readShift rfl (zT_mem 428 (by decide +kernel) rfl) (zT_mem 430 (by decide +kernel) rfl) (zT_mem 4 (by decide +kernel) rfl) rfl rfl (Nat.le_of_ble_eq_true rfl) ⟨by decide, by decide⟩ (by decide +kernel) ?_
        intro hi2 hm2 nx71 hX hW2 hFr2
        clear hW; have hW := hW2; clear hW2
        replace hXX := hXX.tr hX; clear hX
        replace hcb69 := (hFr2 _ (Or.inr rfl)).trans hcb69
        replace hFr := hFr.tr (fun q hq => hFr2 q (Or.inl hq)); clear hFr2
        refine zV_eq (st2 := [.int v70.1, .int (v67.1 11), .int (v67.1 10), .ref b69, .ref b69, .ref rA]) rfl rfl rfl rfl ?_
        obtain ⟨v72, hv72, h⟩ := zbind h
        refine qo_mk (idx := 115) (As := [.int (v67.1 10), .int (v67.1 11), .int v70.1]) (rest := [.ref b69, .ref rA]) (d' := .inr (1, [.int v72.1, .int v72.2.1, .int v72.2.2])) ⟨hW, hcb69, hxb69, hnb69⟩ (fun Q2 hQ2 => ck_newEven s0 D cB cI cJ cD (v67.1 10) (v67.1 11) v70.1 b69  v72 hv72  hcb69 hQ2) oX1_init rfl (zT_mem 433 (by decide +kernel) rfl) (zT_mem 434 (by decide +kernel) rfl) rfl rfl (Nat.le_of_ble_eq_true rfl) ⟨by decide, by decide⟩ (by decide +kernel) (fun hi2 hm2 hX hW2 hFr2 hc73 => ?_)
        clear hcb69 hxb69 hnb69
        replace hFr := hFr.tr hFr2; clear hFr2
        clear hW; have hW := hW2; clear hW2
        replace hXX := hXX.tr hX; clear hX
        have ho74 : iEven hi2 b69 v72 := hc73
        refine q_putL (idx := 24) (z := (.inr (.inl v72))) hW ho74 (zT_mem 301 (by decide +kernel) rfl) (by decide +kernel) (fun hm hW hFr2 => ?_)
        replace hFr := hFr.tr hFr2; clear hFr2
        refine zV_goto (tgt := 294) (off := 198) (by decide +kernel) (by decide) ?_
        refine zV_pick (lo2 := [(0, .ref rA)]) [0] rfl ?_
        exact cr_readStatement_294 s0 D X cB cI cJ cD rA sA tA v67.1 (.inr (.inl v72)) mo ty v70.2 tp n    hW  hXX hFr h hQ
    · replace h := zif_pos q h
      clear q
      refine zV_less (mc' := 0) (ms' := 0) (by decide) (by decide) ?_
      refine zV_blk (pc' := 40) (lo' := [(0, .ref rA)]) (st' := [.ref rA, .ref rA]) [.aload_n 0, .aload_n 0] (by decide +kernel) rfl ?_
      refine q_get (idx := 56) (k := 0) (v := .ref sA) hW (by decide) (zT_mem 297 (by decide +kernel) rfl) (fun _ _ _ => rfl) (by decide +kernel) ?_
      refine zV_blk (pc' := 46) (lo' := [(0, .ref rA)]) (st' := [.int 30, .int 1, .ref sA, .ref rA]) [.iconst 1, .bipush 30] (by decide +kernel) rfl ?_
      obtain ⟨v75, hv75, h⟩ := zbind h
      refine q_cC (idx := 100) (rest := [.ref rA]) hW (cn_takeNumber s0 D cB cI cJ cD sA tA 0 0 v7.2.2 (fun _ => 0) tp (fun _ => 0) (fun _ => 0) n 1 30 v75 hv75) oX9_takeNumber rfl (zT_mem 409 (by decide +kernel) rfl) (zT_mem 410 (by decide +kernel) rfl) (zT_mem 411 (by decide +kernel) rfl) rfl rfl (Nat.le_of_ble_eq_true rfl) ⟨by decide, by decide⟩ (by decide +kernel) (fun hm hW hFr2 => ?_)
      replace hFr := hFr.tr hFr2; clear hFr2
      refine zV_eq (st2 := [.int v75.1, .ref rA]) rfl rfl rfl rfl ?_
      refine q_putI (idx := 18) (k := 3) (x := v75.1) hW (by decide) (zT_mem 300 (by decide +kernel) rfl) (by decide +kernel) (fun hm hW hFr2 => ?_)
      replace hFr := hFr.tr hFr2; clear hFr2
      refine zV_goto (tgt := 294) (off := 242) (by decide +kernel) (by decide) ?_
      refine zV_pick (lo2 := [(0, .ref rA)]) [0] rfl ?_
      exact cr_readStatement_294 s0 D X cB cI cJ cD rA sA tA (upd v7.2.1 3 v75.1) lv mo ty v75.2 tp n    hW  hXX hFr h hQ
  · replace h := zif_pos q h
    clear q
    refine zV_less (mc' := 0) (ms' := 0) (by decide) (by decide) ?_
    refine zV_blk (pc' := 12) (lo' := [(0, .ref rA)]) (st' := [.ref rA, .ref rA]) [.aload_n 0, .aload_n 0] (by decide +kernel) rfl ?_
    refine q_get (idx := 56) (k := 0) (v := .ref sA) hW (by decide) (zT_mem 297 (by decide +kernel) rfl) (fun _ _ _ => rfl) (by decide +kernel) ?_
    refine zV_blk (pc' := 19) (lo' := [(0, .ref rA)]) (st' := [.int 999, .int 1, .ref sA, .ref rA]) [.iconst 1, .sipush 999] (by decide +kernel) rfl ?_
    obtain ⟨v76, hv76, h⟩ := zbind h
    refine q_cC (idx := 100) (rest := [.ref rA]) hW (cn_takeNumber s0 D cB cI cJ cD sA tA 0 0 v3.2.2 (fun _ => 0) tp (fun _ => 0) (fun _ => 0) n 1 999 v76 hv76) oX9_takeNumber rfl (zT_mem 409 (by decide +kernel) rfl) (zT_mem 410 (by decide +kernel) rfl) (zT_mem 411 (by decide +kernel) rfl) rfl rfl (Nat.le_of_ble_eq_true rfl) ⟨by decide, by decide⟩ (by decide +kernel) (fun hm hW hFr2 => ?_)
    replace hFr := hFr.tr hFr2; clear hFr2
    refine zV_eq (st2 := [.int v76.1, .ref rA]) rfl rfl rfl rfl ?_
    refine q_putI (idx := 15) (k := 2) (x := v76.1) hW (by decide) (zT_mem 299 (by decide +kernel) rfl) (by decide +kernel) (fun hm hW hFr2 => ?_)
    replace hFr := hFr.tr hFr2; clear hFr2
    refine zV_goto (tgt := 294) (off := 269) (by decide +kernel) (by decide) ?_
    refine zV_pick (lo2 := [(0, .ref rA)]) [0] rfl ?_
    exact cr_readStatement_294 s0 D X cB cI cJ cD rA sA tA (upd v3.2.1 2 v76.1) lv mo ty v76.2 tp n    hW  hXX hFr h hQ

