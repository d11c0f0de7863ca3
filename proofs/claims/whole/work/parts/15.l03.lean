def l_weeks (n : Nat) (x0 : (Nat → Option vDes)) (x1 : Int32) : Option (Int32) := (k_designAt x0 x1).bind (fun v1 => zOm v1 (some (-1)) (fun z3 => (d_cycle z3.2.1).bind (fun v12 => (k_startOf n z3 v12).bind (fun v16 => (k_gcd n v16 (z3.1.2.2.2.2.1 : Int32).toInt64).bind (fun v17 => zck (decide (¬ ((v17 : Int64).toInt32 : Int32) = 0)) (some (v12 * (z3.1.2.2.2.2.1 / (v17 : Int64).toInt32))))))))
theorem oX11_weeks : zO yX11_weeks cX11_weeks 6 (some .int) 1 := ⟨zT_mem 1228 (by decide +kernel) rfl, zT_mem 89 (by decide +kernel) rfl, by decide +kernel, by decide +kernel, by decide +kernel⟩
set_option maxHeartbeats 4000000 in
set_option maxRecDepth 100000 in
theorem cl_weeks (s0 : State) (D : va_G) (cB cI cJ cD : ClassId) (n : Nat) (x0 : (Nat → Option vDes)) (x1 : Int32) (a0 : Nat) (x : Int32) (h : l_weeks n x0 x1 = some x) {hi hm : zHp} {nx : Nat} {Q : Option Value → zHp → zHp → Nat → Prop} (ho0 : iLD cI cD hi hm a0 x0) (hQ0 : ∀ (hi' : zHp) (nx' : Nat), zX hi hi' → Q (some (.int x)) hi' hm nx') : zM s0 D (zty cB cI cJ cD) yX11_weeks cX11_weeks 6 (some .int) 3 67 0 0 [.ref a0, .int x1] hi hm nx Q := by
  have hQ : ∀ r : Int32, x = r → ∀ (hi' : zHp) (nx' : Nat), zX hi hi' → Q (some (.int r)) hi' hm nx' := fun r hr => by subst hr; exact hQ0
  clear hQ0
  have hXX : zX hi hi := zX.rf
  refine zM_of (by decide +kernel) (Nat.le_of_ble_eq_true rfl) ?_
  unfold l_weeks at h
  refine zV_eq (lo2 := [(0, .ref a0), (1, .int x1)]) rfl rfl rfl rfl ?_
  refine zV_blk (pc' := 2) (lo' := [(0, .ref a0), (1, .int x1)]) (st' := [.int x1, .ref a0]) [.aload_n 0, .iload_n 1] (by decide +kernel) rfl ?_
  obtain ⟨v1, hv1, h⟩ := zbind h
  refine zV_designAt (idx := 105) (rest := []) v1 hv1 ho0 (zT_mem 603 (by decide +kernel) rfl) rfl (Nat.le_of_ble_eq_true rfl) ⟨by decide, by decide⟩ (by decide +kernel) (fun hx => ?_) (fun b2 z3 hx ho4 => ?_)
  · subst hx; replace h := zOm_none h
    refine zV_blk (pc' := 7) (lo' := [(2, .null), (0, .ref a0), (1, .int x1)]) (st' := [.null]) [.astore_n 2, .aload_n 2] (by decide +kernel) rfl ?_
    refine zV_ifnonnull (r := none) (tgt := 12) (off := 5) (by decide +kernel) (by decide) (fun _ q => by cases q) (fun _ => ?_)
    refine zV_blk (pc' := 11) (lo' := [(2, .null), (0, .ref a0), (1, .int x1)]) (st' := [.int (-1)]) [.iconst (-1)] (by decide +kernel) rfl ?_
    obtain rfl := Option.some.inj h
    exact zV_iret rfl (by decide +kernel) (hQ _ rfl _ _ hXX)
  · subst hx; replace h := zOm_some h
    refine zV_blk (pc' := 7) (lo' := [(2, .ref b2), (0, .ref a0), (1, .int x1)]) (st' := [.ref b2]) [.astore_n 2, .aload_n 2] (by decide +kernel) rfl ?_
    refine zV_ifnonnull (r := some b2) (tgt := 12) (off := 5) (by decide +kernel) (by decide) (fun _ _ => ?_) (fun q => by cases q)
    refine zV_blk (pc' := 13) (lo' := [(2, .ref b2), (0, .ref a0), (1, .int x1)]) (st' := [.ref b2]) [.aload_n 2] (by decide +kernel) rfl ?_
    obtain ⟨b5, b6, b7, hc8, hc9, hc10, hc11⟩ := ho4
    refine zV_get (ci := 0) (idx := 95) (k := 1) (N := 3) (fs := [.ref b5, .ref b6, .ref b7]) (v := .ref b6) (Or.inl hc8) rfl z_in0 (by decide) (zT_mem 566 (by decide +kernel) rfl) rfl (by decide +kernel) ?_
    obtain ⟨v12, hv12, h⟩ := zbind h
    refine dc_cycle s0 D cB cI cJ cD (idx := 99) z3.2.1 b6 v12 hv12 hc10 (zT_mem 581 (by decide +kernel) rfl) (rest := []) rfl (Nat.le_of_ble_eq_true rfl) ⟨by decide, by decide⟩ (by decide +kernel) ?_
    refine zV_eq (st2 := [.int v12]) rfl rfl rfl rfl ?_
    refine zV_blk (pc' := 21) (lo' := [(3, .int v12), (2, .ref b2), (0, .ref a0), (1, .int x1)]) (st' := [.ref b2]) [.istore_n 3, .aload_n 2] (by decide +kernel) rfl ?_
    refine zV_get (ci := 0) (idx := 109) (k := 0) (N := 3) (fs := [.ref b5, .ref b6, .ref b7]) (v := .ref b5) (Or.inl hc8) rfl z_in0 (by decide) (zT_mem 564 (by decide +kernel) rfl) rfl (by decide +kernel) ?_
    obtain ⟨b13, hc14, hb15⟩ := hc9
    refine zV_get (ci := 3) (idx := 130) (k := 4) (N := 6) (fs := [.int z3.1.1, .int z3.1.2.1, .ref b13, .int z3.1.2.2.2.1, .int z3.1.2.2.2.2.1, .int z3.1.2.2.2.2.2]) (v := .int z3.1.2.2.2.2.1) (Or.inl hc14) rfl z_in3 (by decide) (zT_mem 543 (by decide +kernel) rfl) rfl (by decide +kernel) ?_
    refine zV_blk (pc' := 31) (lo' := [(4, .int z3.1.2.2.2.2.1), (3, .int v12), (2, .ref b2), (0, .ref a0), (1, .int x1)]) (st' := [.int v12, .ref b2]) [.istore 4, .aload_n 2, .iload_n 3] (by decide +kernel) rfl ?_
    obtain ⟨v16, hv16, h⟩ := zbind h
    refine zV_roV (idx := 230) (rest := []) (fs := [.ref b5, .ref b6, .ref b7]) (ci := 0) (fun Q2 hQ2 => ck_startOf s0 D cB cI cJ cD n z3 v12 b2 v16 hv16 ⟨b5, b6, b7, hc8, ⟨b13, hc14, hb15⟩, hc10, hc11⟩ hQ2) oX0_startOf (Or.inl hc8) rfl (zT_mem 1036 (by decide +kernel) rfl) (zT_mem 719 (by decide +kernel) rfl) (zT_mem 720 (by decide +kernel) rfl) rfl rfl (Nat.le_of_ble_eq_true rfl) ⟨by decide, by decide⟩ (by decide +kernel) ?_
    refine zV_eq (st2 := [.long v16]) rfl rfl rfl rfl ?_
    refine zV_blk (pc' := 37) (lo' := [(4, .int z3.1.2.2.2.2.1), (3, .int v12), (2, .ref b2), (0, .ref a0), (1, .int x1)]) (st' := [.long (z3.1.2.2.2.2.1 : Int32).toInt64, .long v16]) [.iload 4, .i2l] (by decide +kernel) rfl ?_
    obtain ⟨v17, hv17, h⟩ := zbind h
    refine zV_roS (idx := 276) (rest := []) (fun Q2 hQ2 => ck_gcd s0 D cB cI cJ cD n v16 (z3.1.2.2.2.2.1 : Int32).toInt64  v17 hv17  hQ2) oX2_commonDivisor (zT_mem 1181 (by decide +kernel) rfl) (zT_mem 690 (by decide +kernel) rfl) rfl rfl (Nat.le_of_ble_eq_true rfl) ⟨by decide, by decide⟩ (by decide +kernel) ?_
    refine zV_eq (st2 := [.long v17]) rfl rfl rfl rfl ?_
    refine zV_blk (pc' := 48) (lo' := [(5, .int (v17 : Int64).toInt32), (4, .int z3.1.2.2.2.2.1), (3, .int v12), (2, .ref b2), (0, .ref a0), (1, .int x1)]) (st' := [.int (v17 : Int64).toInt32, .int z3.1.2.2.2.2.1, .int v12]) [.l2i, .istore 5, .iload_n 3, .iload 4, .iload 5] (by decide +kernel) rfl ?_
    obtain ⟨hz, h⟩ := zck_some h
    refine zV_idiv (by decide +kernel) (of_decide_eq_true hz) ?_
    refine zV_blk (pc' := 50) (lo' := [(5, .int (v17 : Int64).toInt32), (4, .int z3.1.2.2.2.2.1), (3, .int v12), (2, .ref b2), (0, .ref a0), (1, .int x1)]) (st' := [.int (v12 * (z3.1.2.2.2.2.1 / (v17 : Int64).toInt32))]) [.imul] (by decide +kernel) rfl ?_
    obtain rfl := Option.some.inj h
    exact zV_iret rfl (by decide +kernel) (hQ _ rfl _ _ hXX)

def l_falls (n : Nat) (x0 : (Nat → Option vDes)) (x1 : Int32) (x2 : Int32) (x3 : Int32) (x4 : Int32) (x5 : Int32) (x6 : Int32) : Option (Int32) := (k_designAt x0 x1).bind (fun v1 => zOm v1 (some (-1)) (fun z3 => (k_isStretch x2 x3).bind (fun v5 => (if v5 = true then (k_hasLongestDay z3.1 x4 x5).bind (fun v13 => (if v13 = true then (k_hasWeekday z3.1 x6).bind (fun v17 => (if v17 = true then (k_timesOnWeekday n z3 x2 x3 x4 x5 x6).bind (fun v18 => some v18) else some (-1))) else some (-1))) else some (-1)))))
theorem oX11_falls : zO yX11_falls cX11_falls 8 (some .int) 6 := ⟨zT_mem 1232 (by decide +kernel) rfl, zT_mem 89 (by decide +kernel) rfl, by decide +kernel, by decide +kernel, by decide +kernel⟩
set_option maxHeartbeats 4000000 in
set_option maxRecDepth 100000 in
theorem cl_falls (s0 : State) (D : va_G) (cB cI cJ cD : ClassId) (n : Nat) (x0 : (Nat → Option vDes)) (x1 : Int32) (x2 : Int32) (x3 : Int32) (x4 : Int32) (x5 : Int32) (x6 : Int32) (a0 : Nat) (x : Int32) (h : l_falls n x0 x1 x2 x3 x4 x5 x6 = some x) {hi hm : zHp} {nx : Nat} {Q : Option Value → zHp → zHp → Nat → Prop} (ho0 : iLD cI cD hi hm a0 x0) (hQ0 : ∀ (hi' : zHp) (nx' : Nat), zX hi hi' → Q (some (.int x)) hi' hm nx') : zM s0 D (zty cB cI cJ cD) yX11_falls cX11_falls 8 (some .int) 4 103 0 0 [.ref a0, .int x1, .int x2, .int x3, .int x4, .int x5, .int x6] hi hm nx Q := by
  have hQ : ∀ r : Int32, x = r → ∀ (hi' : zHp) (nx' : Nat), zX hi hi' → Q (some (.int r)) hi' hm nx' := fun r hr => by subst hr; exact hQ0
  clear hQ0
  have hXX : zX hi hi := zX.rf
  refine zM_of (by decide +kernel) (Nat.le_of_ble_eq_true rfl) ?_
  unfold l_falls at h
  refine zV_eq (lo2 := [(0, .ref a0), (1, .int x1), (2, .int x2), (3, .int x3), (4, .int x4), (5, .int x5), (6, .int x6)]) rfl rfl rfl rfl ?_
  refine zV_blk (pc' := 2) (lo' := [(0, .ref a0), (1, .int x1), (2, .int x2), (3, .int x3), (4, .int x4), (5, .int x5), (6, .int x6)]) (st' := [.int x1, .ref a0]) [.aload_n 0, .iload_n 1] (by decide +kernel) rfl ?_
  obtain ⟨v1, hv1, h⟩ := zbind h
  refine zV_designAt (idx := 105) (rest := []) v1 hv1 ho0 (zT_mem 603 (by decide +kernel) rfl) rfl (Nat.le_of_ble_eq_true rfl) ⟨by decide, by decide⟩ (by decide +kernel) (fun hx => ?_) (fun b2 z3 hx ho4 => ?_)
  · subst hx; replace h := zOm_none h
    refine zV_blk (pc' := 9) (lo' := [(7, .null), (0, .ref a0), (1, .int x1), (2, .int x2), (3, .int x3), (4, .int x4), (5, .int x5), (6, .int x6)]) (st' := [.null]) [.astore 7, .aload 7] (by decide +kernel) rfl ?_
    refine zV_ifnull (r := none) (tgt := 20) (off := 11) (by decide +kernel) (by decide) (fun _ => ?_) (fun _ q => by cases q)
    refine zV_blk (pc' := 21) (lo' := [(7, .null), (0, .ref a0), (1, .int x1), (2, .int x2), (3, .int x3), (4, .int x4), (5, .int x5), (6, .int x6)]) (st' := [.int (-1)]) [.iconst (-1)] (by decide +kernel) rfl ?_
    obtain rfl := Option.some.inj h
    exact zV_iret rfl (by decide +kernel) (hQ _ rfl _ _ hXX)
  · subst hx; replace h := zOm_some h
    refine zV_blk (pc' := 9) (lo' := [(7, .ref b2), (0, .ref a0), (1, .int x1), (2, .int x2), (3, .int x3), (4, .int x4), (5, .int x5), (6, .int x6)]) (st' := [.ref b2]) [.astore 7, .aload 7] (by decide +kernel) rfl ?_
    refine zV_ifnull (r := some b2) (tgt := 20) (off := 11) (by decide +kernel) (by decide) (fun q => by cases q) (fun _ _ => ?_)
    refine zV_blk (pc' := 14) (lo' := [(7, .ref b2), (0, .ref a0), (1, .int x1), (2, .int x2), (3, .int x3), (4, .int x4), (5, .int x5), (6, .int x6)]) (st' := [.int x3, .int x2]) [.iload_n 2, .iload_n 3] (by decide +kernel) rfl ?_
    obtain ⟨v5, hv5, h⟩ := zbind h
    refine zV_roS (idx := 315) (rest := []) (fun Q2 hQ2 => ck_isStretch s0 D cB cI cJ cD x2 x3  v5 hv5  hQ2) oX11_isStretch (zT_mem 1233 (by decide +kernel) rfl) (zT_mem 1234 (by decide +kernel) rfl) rfl rfl (Nat.le_of_ble_eq_true rfl) ⟨by decide, by decide⟩ (by decide +kernel) ?_
    refine zV_eq (st2 := [.int (zb v5)]) rfl rfl rfl rfl ?_
    refine zV_bif_ne (tgt := 22) (off := 5) (by decide +kernel) (by decide) (fun q => ?_) (fun q => ?_)
    · replace h := zif_pos q h
      clear q
      refine zV_blk (pc' := 24) (lo' := [(7, .ref b2), (0, .ref a0), (1, .int x1), (2, .int x2), (3, .int x3), (4, .int x4), (5, .int x5), (6, .int x6)]) (st' := [.ref b2]) [.aload 7] (by decide +kernel) rfl ?_
      obtain ⟨b6, b7, b8, hc9, hc10, hc11, hc12⟩ := ho4
      refine zV_get (ci := 0) (idx := 109) (k := 0) (N := 3) (fs := [.ref b6, .ref b7, .ref b8]) (v := .ref b6) (Or.inl hc9) rfl z_in0 (by decide) (zT_mem 564 (by decide +kernel) rfl) rfl (by decide +kernel) ?_
      refine zV_blk (pc' := 31) (lo' := [(7, .ref b2), (0, .ref a0), (1, .int x1), (2, .int x2), (3, .int x3), (4, .int x4), (5, .int x5), (6, .int x6)]) (st' := [.int x5, .int x4, .ref b6]) [.iload 4, .iload 5] (by decide +kernel) rfl ?_
      obtain ⟨v13, hv13, h⟩ := zbind h
      obtain ⟨b14, hc15, hb16⟩ := hc10
      refine zV_roV (idx := 318) (rest := []) (fs := [.int z3.1.1, .int z3.1.2.1, .ref b14, .int z3.1.2.2.2.1, .int z3.1.2.2.2.2.1, .int z3.1.2.2.2.2.2]) (ci := 3) (fun Q2 hQ2 => ck_hasLongestDay s0 D cB cI cJ cD z3.1 x4 x5 b6 v13 hv13 ⟨b14, hc15, hb16⟩ hQ2) oX3_hasLongestDay (Or.inl hc15) rfl (zT_mem 1236 (by decide +kernel) rfl) (zT_mem 1237 (by decide +kernel) rfl) (zT_mem 1238 (by decide +kernel) rfl) rfl rfl (Nat.le_of_ble_eq_true rfl) ⟨by decide, by decide⟩ (by decide +kernel) ?_
      refine zV_eq (st2 := [.int (zb v13)]) rfl rfl rfl rfl ?_
      refine zV_bif_eq (tgt := 50) (off := 16) (by decide +kernel) (by decide) (fun q => ?_) (fun q => ?_)
      · replace h := zif_neg q h
        clear q
        refine zV_blk (pc' := 51) (lo' := [(7, .ref b2), (0, .ref a0), (1, .int x1), (2, .int x2), (3, .int x3), (4, .int x4), (5, .int x5), (6, .int x6)]) (st' := [.int (-1)]) [.iconst (-1)] (by decide +kernel) rfl ?_
        obtain rfl := Option.some.inj h
        exact zV_iret rfl (by decide +kernel) (hQ _ rfl _ _ hXX)
      · replace h := zif_pos q h
        clear q
        refine zV_blk (pc' := 39) (lo' := [(7, .ref b2), (0, .ref a0), (1, .int x1), (2, .int x2), (3, .int x3), (4, .int x4), (5, .int x5), (6, .int x6)]) (st' := [.ref b2]) [.aload 7] (by decide +kernel) rfl ?_
        refine zV_get (ci := 0) (idx := 109) (k := 0) (N := 3) (fs := [.ref b6, .ref b7, .ref b8]) (v := .ref b6) (Or.inl hc9) rfl z_in0 (by decide) (zT_mem 564 (by decide +kernel) rfl) rfl (by decide +kernel) ?_
        refine zV_blk (pc' := 44) (lo' := [(7, .ref b2), (0, .ref a0), (1, .int x1), (2, .int x2), (3, .int x3), (4, .int x4), (5, .int x5), (6, .int x6)]) (st' := [.int x6, .ref b6]) [.iload 6] (by decide +kernel) rfl ?_
        obtain ⟨v17, hv17, h⟩ := zbind h
        refine zV_roV (idx := 321) (rest := []) (fs := [.int z3.1.1, .int z3.1.2.1, .ref b14, .int z3.1.2.2.2.1, .int z3.1.2.2.2.2.1, .int z3.1.2.2.2.2.2]) (ci := 3) (fun Q2 hQ2 => ck_hasWeekday s0 D cB cI cJ cD z3.1 x6 b6 v17 hv17 ⟨b14, hc15, hb16⟩ hQ2) oX3_hasWeekday (Or.inl hc15) rfl (zT_mem 1240 (by decide +kernel) rfl) (zT_mem 1241 (by decide +kernel) rfl) (zT_mem 1242 (by decide +kernel) rfl) rfl rfl (Nat.le_of_ble_eq_true rfl) ⟨by decide, by decide⟩ (by decide +kernel) ?_
        refine zV_eq (st2 := [.int (zb v17)]) rfl rfl rfl rfl ?_
        refine zV_bif_ne (tgt := 52) (off := 5) (by decide +kernel) (by decide) (fun q => ?_) (fun q => ?_)
        · replace h := zif_pos q h
          clear q
          refine zV_blk (pc' := 62) (lo' := [(7, .ref b2), (0, .ref a0), (1, .int x1), (2, .int x2), (3, .int x3), (4, .int x4), (5, .int x5), (6, .int x6)]) (st' := [.int x6, .int x5, .int x4, .int x3, .int x2, .ref b2]) [.aload 7, .iload_n 2, .iload_n 3, .iload 4, .iload 5, .iload 6] (by decide +kernel) rfl ?_
          obtain ⟨v18, hv18, h⟩ := zbind h
          refine zV_roV (idx := 324) (rest := []) (fs := [.ref b6, .ref b7, .ref b8]) (ci := 0) (fun Q2 hQ2 => ck_timesOnWeekday s0 D cB cI cJ cD n z3 x2 x3 x4 x5 x6 b2 v18 hv18 ⟨b6, b7, b8, hc9, ⟨b14, hc15, hb16⟩, hc11, hc12⟩ hQ2) oX0_timesOnWeekday (Or.inl hc9) rfl (zT_mem 1244 (by decide +kernel) rfl) (zT_mem 1245 (by decide +kernel) rfl) (zT_mem 1246 (by decide +kernel) rfl) rfl rfl (Nat.le_of_ble_eq_true rfl) ⟨by decide, by decide⟩ (by decide +kernel) ?_
          refine zV_eq (st2 := [.int v18]) rfl rfl rfl rfl ?_
          obtain rfl := Option.some.inj h
          exact zV_iret rfl (by decide +kernel) (hQ _ rfl _ _ hXX)
        · replace h := zif_neg q h
          clear q
          refine zV_blk (pc' := 51) (lo' := [(7, .ref b2), (0, .ref a0), (1, .int x1), (2, .int x2), (3, .int x3), (4, .int x4), (5, .int x5), (6, .int x6)]) (st' := [.int (-1)]) [.iconst (-1)] (by decide +kernel) rfl ?_
          obtain rfl := Option.some.inj h
          exact zV_iret rfl (by decide +kernel) (hQ _ rfl _ _ hXX)
    · replace h := zif_neg q h
      clear q
      refine zV_blk (pc' := 21) (lo' := [(7, .ref b2), (0, .ref a0), (1, .int x1), (2, .int x2), (3, .int x3), (4, .int x4), (5, .int x5), (6, .int x6)]) (st' := [.int (-1)]) [.iconst (-1)] (by decide +kernel) rfl ?_
      obtain rfl := Option.some.inj h
      exact zV_iret rfl (by decide +kernel) (hQ _ rfl _ _ hXX)

def l_nth_177 (n : Nat) : Option (Int64) := some (-1000000000000000)
set_option maxHeartbeats 4000000 in
set_option maxRecDepth 100000 in
theorem cl_nth_177 (s0 : State) (D : va_G) (cB cI cJ cD : ClassId) (n : Nat) {x : Int64} {hi0 hi hm : zHp} {nx : Nat} {Q : Option Value → zHp → zHp → Nat → Prop} (hXX : zX hi0 hi) (h : l_nth_177 n  = some x) (hQ : ∀ r : Int64, x = r → ∀ (hi' : zHp) (nx' : Nat), zX hi0 hi' → Q (some (.long r)) hi' hm nx') : zV s0 D (zty cB cI cJ cD) yX11_nth cX11_nth 14 (some .long) 4 91 0 0 177 [] [] hi hm nx Q := by
  unfold l_nth_177 at h
  refine zV_ldc2 (idx := 164) (v := (-1000000000000000)) (zT_mem 681 (by decide +kernel) rfl) (by decide +kernel) ?_
  refine zV_goto (tgt := 189) (off := 9) (by decide +kernel) (by decide) ?_
  obtain rfl := Option.some.inj h
  exact zV_lret rfl (by decide +kernel) (hQ _ rfl _ _ hXX)
def l_nth_163 (n : Nat) (x8 : Int64) (x11 : Int32) (t0 : Int32) : Option (Int64) := (if (t0 : Int32) < (0 : Int32) then (l_nth_177 n  ) else (if (t0 : Int32) < (x11 : Int32) then some (x8 + (t0 : Int32).toInt64) else (l_nth_177 n  )))
set_option maxHeartbeats 4000000 in
set_option maxRecDepth 100000 in
theorem cl_nth_163 (s0 : State) (D : va_G) (cB cI cJ cD : ClassId) (n : Nat) (x8 : Int64) (x11 : Int32) (t0 : Int32) {x : Int64} {hi0 hi hm : zHp} {nx : Nat} {Q : Option Value → zHp → zHp → Nat → Prop} (hXX : zX hi0 hi) (h : l_nth_163 n x8 x11 t0 = some x) (hQ : ∀ r : Int64, x = r → ∀ (hi' : zHp) (nx' : Nat), zX hi0 hi' → Q (some (.long r)) hi' hm nx') : zV s0 D (zty cB cI cJ cD) yX11_nth cX11_nth 14 (some .long) 4 91 0 0 163 [(8, .long x8), (11, .int x11)] [.int t0] hi hm nx Q := by
  unfold l_nth_163 at h
  refine zV_blk (pc' := 167) (lo' := [(13, .int t0), (8, .long x8), (11, .int x11)]) (st' := [.int t0]) [.istore 13, .iload 13] (by decide +kernel) rfl ?_
  refine zV_if_lt (tgt := 177) (off := 10) (by decide +kernel) (by decide) (fun q => ?_) (fun q => ?_)
  · replace h := zif_pos q h
    clear q
    refine zV_pick (lo2 := []) [] rfl ?_
    exact cl_nth_177 s0 D cB cI cJ cD n     hXX h hQ
  · replace h := zif_neg q h
    clear q
    refine zV_blk (pc' := 174) (lo' := [(13, .int t0), (8, .long x8), (11, .int x11)]) (st' := [.int x11, .int t0]) [.iload 13, .iload 11] (by decide +kernel) rfl ?_
    refine zV_icmp_lt (tgt := 183) (off := 9) (by decide +kernel) (by decide) (fun q => ?_) (fun q => ?_)
    · replace h := zif_pos q h
      clear q
      refine zV_blk (pc' := 189) (lo' := [(13, .int t0), (8, .long x8), (11, .int x11)]) (st' := [.long (x8 + (t0 : Int32).toInt64)]) [.lload 8, .iload 13, .i2l, .ladd] (by decide +kernel) rfl ?_
      obtain rfl := Option.some.inj h
      exact zV_lret rfl (by decide +kernel) (hQ _ rfl _ _ hXX)
    · replace h := zif_neg q h
      clear q
      refine zV_pick (lo2 := []) [] rfl ?_
      exact cl_nth_177 s0 D cB cI cJ cD n     hXX h hQ
def l_nth (n : Nat) (x0 : (Nat → Option vDes)) (x1 : Int32) (x2 : Int32) (x3 : Int32) (x4 : Int32) (x5 : Int32) (x6 : Int32) : Option (Int64) := (k_designAt x0 x1).bind (fun v1 => zOm v1 (some (-1000000000000000)) (fun z3 => (if (x5 : Int32) < (1 : Int32) then some (-1000000000000000) else (if (200 : Int32) < (x5 : Int32) then some (-1000000000000000) else (k_hasWeekday z3.1 x4).bind (fun v12 => (if v12 = true then (k_numberOf n z3 x2 x3 0).bind (fun v16 => (if (v16 : Int64) = ((-1000000000000000) : Int64) then some (-1000000000000000) else (d_isLeap n z3.2.1 x2).bind (fun v17 => (k_monthDays z3.1 x3 (zb v17)).bind (fun v18 => (if (x6 : Int32) = (0 : Int32) then (k_weekdayOf z3.1 v16).bind (fun v19 => (j_fmodI (x4 - v19) z3.1.2.2.2.2.1).bind (fun v20 => (l_nth_163 n v16 v18 (v20 + ((x5 - 1) * z3.1.2.2.2.2.1))))) else (k_weekdayOf z3.1 ((v16 + (v18 : Int32).toInt64) - 1)).bind (fun v21 => (j_fmodI (v21 - x4) z3.1.2.2.2.2.1).bind (fun v22 => (l_nth_163 n v16 v18 (((v18 - 1) - v22) - ((x5 - 1) * z3.1.2.2.2.2.1)))))))))) else some (-1000000000000000)))))))
theorem oX11_nth : zO yX11_nth cX11_nth 14 (some .long) 6 := ⟨zT_mem 1251 (by decide +kernel) rfl, zT_mem 89 (by decide +kernel) rfl, by decide +kernel, by decide +kernel, by decide +kernel⟩
set_option maxHeartbeats 4000000 in
set_option maxRecDepth 100000 in
theorem cl_nth (s0 : State) (D : va_G) (cB cI cJ cD : ClassId) (n : Nat) (x0 : (Nat → Option vDes)) (x1 : Int32) (x2 : Int32) (x3 : Int32) (x4 : Int32) (x5 : Int32) (x6 : Int32) (a0 : Nat) (x : Int64) (h : l_nth n x0 x1 x2 x3 x4 x5 x6 = some x) {hi hm : zHp} {nx : Nat} {Q : Option Value → zHp → zHp → Nat → Prop} (ho0 : iLD cI cD hi hm a0 x0) (hQ0 : ∀ (hi' : zHp) (nx' : Nat), zX hi hi' → Q (some (.long x)) hi' hm nx') : zM s0 D (zty cB cI cJ cD) yX11_nth cX11_nth 14 (some .long) 4 91 0 0 [.ref a0, .int x1, .int x2, .int x3, .int x4, .int x5, .int x6] hi hm nx Q := by
  have hQ : ∀ r : Int64, x = r → ∀ (hi' : zHp) (nx' : Nat), zX hi hi' → Q (some (.long r)) hi' hm nx' := fun r hr => by subst hr; exact hQ0
  clear hQ0
  have hXX : zX hi hi := zX.rf
  refine zM_of (by decide +kernel) (Nat.le_of_ble_eq_true rfl) ?_
  unfold l_nth at h
  refine zV_eq (lo2 := [(0, .ref a0), (1, .int x1), (2, .int x2), (3, .int x3), (4, .int x4), (5, .int x5), (6, .int x6)]) rfl rfl rfl rfl ?_
  refine zV_blk (pc' := 2) (lo' := [(0, .ref a0), (1, .int x1), (2, .int x2), (3, .int x3), (4, .int x4), (5, .int x5), (6, .int x6)]) (st' := [.int x1, .ref a0]) [.aload_n 0, .iload_n 1] (by decide +kernel) rfl ?_
  obtain ⟨v1, hv1, h⟩ := zbind h
  refine zV_designAt (idx := 105) (rest := []) v1 hv1 ho0 (zT_mem 603 (by decide +kernel) rfl) rfl (Nat.le_of_ble_eq_true rfl) ⟨by decide, by decide⟩ (by decide +kernel) (fun hx => ?_) (fun b2 z3 hx ho4 => ?_)
  · subst hx; replace h := zOm_none h
    refine zV_blk (pc' := 9) (lo' := [(7, .null), (0, .ref a0), (1, .int x1), (2, .int x2), (3, .int x3), (4, .int x4), (5, .int x5), (6, .int x6)]) (st' := [.null]) [.astore 7, .aload 7] (by decide +kernel) rfl ?_
    refine zV_ifnull (r := none) (tgt := 39) (off := 30) (by decide +kernel) (by decide) (fun _ => ?_) (fun _ q => by cases q)
    refine zV_ldc2 (idx := 164) (v := (-1000000000000000)) (zT_mem 681 (by decide +kernel) rfl) (by decide +kernel) ?_
    obtain rfl := Option.some.inj h
    exact zV_lret rfl (by decide +kernel) (hQ _ rfl _ _ hXX)
  · subst hx; replace h := zOm_some h
    refine zV_blk (pc' := 9) (lo' := [(7, .ref b2), (0, .ref a0), (1, .int x1), (2, .int x2), (3, .int x3), (4, .int x4), (5, .int x5), (6, .int x6)]) (st' := [.ref b2]) [.astore 7, .aload 7] (by decide +kernel) rfl ?_
    refine zV_ifnull (r := some b2) (tgt := 39) (off := 30) (by decide +kernel) (by decide) (fun q => by cases q) (fun _ _ => ?_)
    refine zV_blk (pc' := 15) (lo' := [(7, .ref b2), (0, .ref a0), (1, .int x1), (2, .int x2), (3, .int x3), (4, .int x4), (5, .int x5), (6, .int x6)]) (st' := [.int 1, .int x5]) [.iload 5, .iconst 1] (by decide +kernel) rfl ?_
    refine zV_icmp_lt (tgt := 39) (off := 24) (by decide +kernel) (by decide) (fun q => ?_) (fun q => ?_)
    · replace h := zif_pos q h
      clear q
      refine zV_ldc2 (idx := 164) (v := (-1000000000000000)) (zT_mem 681 (by decide +kernel) rfl) (by decide +kernel) ?_
      obtain rfl := Option.some.inj h
      exact zV_lret rfl (by decide +kernel) (hQ _ rfl _ _ hXX)
    · replace h := zif_neg q h
      clear q
      refine zV_blk (pc' := 23) (lo' := [(7, .ref b2), (0, .ref a0), (1, .int x1), (2, .int x2), (3, .int x3), (4, .int x4), (5, .int x5), (6, .int x6)]) (st' := [.int 200, .int x5]) [.iload 5, .sipush 200] (by decide +kernel) rfl ?_
      refine zV_icmp_gt (tgt := 39) (off := 16) (by decide +kernel) (by decide) (fun q => ?_) (fun q => ?_)
      · replace h := zif_pos q h
        clear q
        refine zV_ldc2 (idx := 164) (v := (-1000000000000000)) (zT_mem 681 (by decide +kernel) rfl) (by decide +kernel) ?_
        obtain rfl := Option.some.inj h
        exact zV_lret rfl (by decide +kernel) (hQ _ rfl _ _ hXX)
      · replace h := zif_neg q h
        clear q
        refine zV_blk (pc' := 28) (lo' := [(7, .ref b2), (0, .ref a0), (1, .int x1), (2, .int x2), (3, .int x3), (4, .int x4), (5, .int x5), (6, .int x6)]) (st' := [.ref b2]) [.aload 7] (by decide +kernel) rfl ?_
        obtain ⟨b5, b6, b7, hc8, hc9, hc10, hc11⟩ := ho4
        refine zV_get (ci := 0) (idx := 109) (k := 0) (N := 3) (fs := [.ref b5, .ref b6, .ref b7]) (v := .ref b5) (Or.inl hc8) rfl z_in0 (by decide) (zT_mem 564 (by decide +kernel) rfl) rfl (by decide +kernel) ?_
        refine zV_blk (pc' := 33) (lo' := [(7, .ref b2), (0, .ref a0), (1, .int x1), (2, .int x2), (3, .int x3), (4, .int x4), (5, .int x5), (6, .int x6)]) (st' := [.int x4, .ref b5]) [.iload 4] (by decide +kernel) rfl ?_
        obtain ⟨v12, hv12, h⟩ := zbind h
        obtain ⟨b13, hc14, hb15⟩ := hc9
        refine zV_roV (idx := 321) (rest := []) (fs := [.int z3.1.1, .int z3.1.2.1, .ref b13, .int z3.1.2.2.2.1, .int z3.1.2.2.2.2.1, .int z3.1.2.2.2.2.2]) (ci := 3) (fun Q2 hQ2 => ck_hasWeekday s0 D cB cI cJ cD z3.1 x4 b5 v12 hv12 ⟨b13, hc14, hb15⟩ hQ2) oX3_hasWeekday (Or.inl hc14) rfl (zT_mem 1240 (by decide +kernel) rfl) (zT_mem 1241 (by decide +kernel) rfl) (zT_mem 1242 (by decide +kernel) rfl) rfl rfl (Nat.le_of_ble_eq_true rfl) ⟨by decide, by decide⟩ (by decide +kernel) ?_
        refine zV_eq (st2 := [.int (zb v12)]) rfl rfl rfl rfl ?_
        refine zV_bif_ne (tgt := 43) (off := 7) (by decide +kernel) (by decide) (fun q => ?_) (fun q => ?_)
        · replace h := zif_pos q h
          clear q
          refine zV_blk (pc' := 48) (lo' := [(7, .ref b2), (0, .ref a0), (1, .int x1), (2, .int x2), (3, .int x3), (4, .int x4), (5, .int x5), (6, .int x6)]) (st' := [.int 0, .int x3, .int x2, .ref b2]) [.aload 7, .iload_n 2, .iload_n 3, .iconst 0] (by decide +kernel) rfl ?_
          obtain ⟨v16, hv16, h⟩ := zbind h
          refine zV_roV (idx := 240) (rest := []) (fs := [.ref b5, .ref b6, .ref b7]) (ci := 0) (fun Q2 hQ2 => ck_numberOf s0 D cB cI cJ cD n z3 x2 x3 0 b2 v16 hv16 ⟨b5, b6, b7, hc8, ⟨b13, hc14, hb15⟩, hc10, hc11⟩ hQ2) oX0_numberOf (Or.inl hc8) rfl (zT_mem 1091 (by decide +kernel) rfl) (zT_mem 1092 (by decide +kernel) rfl) (zT_mem 1093 (by decide +kernel) rfl) rfl rfl (Nat.le_of_ble_eq_true rfl) ⟨by decide, by decide⟩ (by decide +kernel) ?_
          refine zV_eq (st2 := [.long v16]) rfl rfl rfl rfl ?_
          refine zV_blk (pc' := 55) (lo' := [(8, .long v16), (7, .ref b2), (0, .ref a0), (1, .int x1), (2, .int x2), (3, .int x3), (4, .int x4), (5, .int x5), (6, .int x6)]) (st' := [.long v16]) [.lstore 8, .lload 8] (by decide +kernel) rfl ?_
          refine zV_ldc2 (idx := 164) (v := (-1000000000000000)) (zT_mem 681 (by decide +kernel) rfl) (by decide +kernel) ?_
          refine zV_blk (pc' := 59) (lo' := [(8, .long v16), (7, .ref b2), (0, .ref a0), (1, .int x1), (2, .int x2), (3, .int x3), (4, .int x4), (5, .int x5), (6, .int x6)]) (st' := [.int (lg_cmp v16 (-1000000000000000))]) [.lcmp] (by decide +kernel) rfl ?_
          refine zV_lcmp_ne (tgt := 66) (off := 7) (by decide +kernel) (by decide) (fun q => ?_) (fun q => ?_)
          · replace h := zif_neg q h
            clear q
            refine zV_blk (pc' := 68) (lo' := [(8, .long v16), (7, .ref b2), (0, .ref a0), (1, .int x1), (2, .int x2), (3, .int x3), (4, .int x4), (5, .int x5), (6, .int x6)]) (st' := [.ref b2]) [.aload 7] (by decide +kernel) rfl ?_
            refine zV_get (ci := 0) (idx := 109) (k := 0) (N := 3) (fs := [.ref b5, .ref b6, .ref b7]) (v := .ref b5) (Or.inl hc8) rfl z_in0 (by decide) (zT_mem 564 (by decide +kernel) rfl) rfl (by decide +kernel) ?_
            refine zV_blk (pc' := 78) (lo' := [(10, .ref b5), (8, .long v16), (7, .ref b2), (0, .ref a0), (1, .int x1), (2, .int x2), (3, .int x3), (4, .int x4), (5, .int x5), (6, .int x6)]) (st' := [.ref b2, .int x3, .ref b5]) [.astore 10, .aload 10, .iload_n 3, .aload 7] (by decide +kernel) rfl ?_
            refine zV_get (ci := 0) (idx := 95) (k := 1) (N := 3) (fs := [.ref b5, .ref b6, .ref b7]) (v := .ref b6) (Or.inl hc8) rfl z_in0 (by decide) (zT_mem 566 (by decide +kernel) rfl) rfl (by decide +kernel) ?_
            refine zV_blk (pc' := 82) (lo' := [(10, .ref b5), (8, .long v16), (7, .ref b2), (0, .ref a0), (1, .int x1), (2, .int x2), (3, .int x3), (4, .int x4), (5, .int x5), (6, .int x6)]) (st' := [.int x2, .ref b6, .int x3, .ref b5]) [.iload_n 2] (by decide +kernel) rfl ?_
            obtain ⟨v17, hv17, h⟩ := zbind h
            refine dc_isLeap s0 D cB cI cJ cD (idx := 223) n z3.2.1 x2 b6 v17 hv17 hc10 (zT_mem 1014 (by decide +kernel) rfl) (rest := [.int x3, .ref b5]) rfl (Nat.le_of_ble_eq_true rfl) ⟨by decide, by decide⟩ (by decide +kernel) ?_
            refine zV_eq (st2 := [.int (zb v17), .int x3, .ref b5]) rfl rfl rfl rfl ?_
            obtain ⟨v18, hv18, h⟩ := zbind h
            refine zV_roV (idx := 160) (rest := []) (fs := [.int z3.1.1, .int z3.1.2.1, .ref b13, .int z3.1.2.2.2.1, .int z3.1.2.2.2.2.1, .int z3.1.2.2.2.2.2]) (ci := 3) (fun Q2 hQ2 => ck_monthDays s0 D cB cI cJ cD z3.1 x3 (zb v17) b5 v18 hv18 ⟨b13, hc14, hb15⟩ hQ2) oX3_monthDays (Or.inl hc14) rfl (zT_mem 672 (by decide +kernel) rfl) (zT_mem 673 (by decide +kernel) rfl) (zT_mem 674 (by decide +kernel) rfl) rfl rfl (Nat.le_of_ble_eq_true rfl) ⟨by decide, by decide⟩ (by decide +kernel) ?_
            refine zV_eq (st2 := [.int v18]) rfl rfl rfl rfl ?_
            refine zV_blk (pc' := 96) (lo' := [(11, .int v18), (10, .ref b5), (8, .long v16), (7, .ref b2), (0, .ref a0), (1, .int x1), (2, .int x2), (3, .int x3), (4, .int x4), (5, .int x5), (6, .int x6)]) (st' := [.ref b5, .int (x5 - 1)]) [.istore 11, .iload 5, .iconst 1, .isub, .aload 10] (by decide +kernel) rfl ?_
            refine zV_get (ci := 3) (idx := 130) (k := 4) (N := 6) (fs := [.int z3.1.1, .int z3.1.2.1, .ref b13, .int z3.1.2.2.2.1, .int z3.1.2.2.2.2.1, .int z3.1.2.2.2.2.2]) (v := .int z3.1.2.2.2.2.1) (Or.inl hc14) rfl z_in3 (by decide) (zT_mem 543 (by decide +kernel) rfl) rfl (by decide +kernel) ?_
            refine zV_blk (pc' := 104) (lo' := [(12, .int ((x5 - 1) * z3.1.2.2.2.2.1)), (11, .int v18), (10, .ref b5), (8, .long v16), (7, .ref b2), (0, .ref a0), (1, .int x1), (2, .int x2), (3, .int x3), (4, .int x4), (5, .int x5), (6, .int x6)]) (st' := [.int x6]) [.imul, .istore 12, .iload 6] (by decide +kernel) rfl ?_
            refine zV_if_eq (tgt := 142) (off := 38) (by decide +kernel) (by decide) (fun q => ?_) (fun q => ?_)
            · replace h := zif_pos q h
              clear q
              refine zV_blk (pc' := 148) (lo' := [(12, .int ((x5 - 1) * z3.1.2.2.2.2.1)), (11, .int v18), (10, .ref b5), (8, .long v16), (7, .ref b2), (0, .ref a0), (1, .int x1), (2, .int x2), (3, .int x3), (4, .int x4), (5, .int x5), (6, .int x6)]) (st' := [.long v16, .ref b5, .int x4]) [.iload 4, .aload 10, .lload 8] (by decide +kernel) rfl ?_
              obtain ⟨v19, hv19, h⟩ := zbind h
              refine zV_roV (idx := 328) (rest := [.int x4]) (fs := [.int z3.1.1, .int z3.1.2.1, .ref b13, .int z3.1.2.2.2.1, .int z3.1.2.2.2.2.1, .int z3.1.2.2.2.2.2]) (ci := 3) (fun Q2 hQ2 => ck_weekdayOf s0 D cB cI cJ cD z3.1 v16 b5 v19 hv19 ⟨b13, hc14, hb15⟩ hQ2) oX3_weekdayOf (Or.inl hc14) rfl (zT_mem 1252 (by decide +kernel) rfl) (zT_mem 1081 (by decide +kernel) rfl) (zT_mem 1082 (by decide +kernel) rfl) rfl rfl (Nat.le_of_ble_eq_true rfl) ⟨by decide, by decide⟩ (by decide +kernel) ?_
              refine zV_eq (st2 := [.int v19, .int x4]) rfl rfl rfl rfl ?_
              refine zV_blk (pc' := 154) (lo' := [(12, .int ((x5 - 1) * z3.1.2.2.2.2.1)), (11, .int v18), (10, .ref b5), (8, .long v16), (7, .ref b2), (0, .ref a0), (1, .int x1), (2, .int x2), (3, .int x3), (4, .int x4), (5, .int x5), (6, .int x6)]) (st' := [.ref b5, .int (x4 - v19)]) [.isub, .aload 10] (by decide +kernel) rfl ?_
              refine zV_get (ci := 3) (idx := 130) (k := 4) (N := 6) (fs := [.int z3.1.1, .int z3.1.2.1, .ref b13, .int z3.1.2.2.2.1, .int z3.1.2.2.2.2.1, .int z3.1.2.2.2.2.2]) (v := .int z3.1.2.2.2.2.1) (Or.inl hc14) rfl z_in3 (by decide) (zT_mem 543 (by decide +kernel) rfl) rfl (by decide +kernel) ?_
              obtain ⟨v20, hv20, h⟩ := zbind h
              refine zV_roS (idx := 332) (rest := []) (fun Q2 hQ2 => cj_fmodI s0 D cB cI cJ cD (x4 - v19) z3.1.2.2.2.2.1  v20 hv20  hQ2) oJ9_floorMod_7cf53 (zT_mem 1253 (by decide +kernel) rfl) (zT_mem 649 (by decide +kernel) rfl) rfl rfl (Nat.le_of_ble_eq_true rfl) ⟨by decide, by decide⟩ (by decide +kernel) ?_
              refine zV_eq (st2 := [.int v20]) rfl rfl rfl rfl ?_
              refine zV_blk (pc' := 163) (lo' := [(12, .int ((x5 - 1) * z3.1.2.2.2.2.1)), (11, .int v18), (10, .ref b5), (8, .long v16), (7, .ref b2), (0, .ref a0), (1, .int x1), (2, .int x2), (3, .int x3), (4, .int x4), (5, .int x5), (6, .int x6)]) (st' := [.int (v20 + ((x5 - 1) * z3.1.2.2.2.2.1))]) [.iload 12, .iadd] (by decide +kernel) rfl ?_
              refine zV_pick (lo2 := [(8, .long v16), (11, .int v18)]) [3, 1] rfl ?_
              exact cl_nth_163 s0 D cB cI cJ cD n v16 v18 (v20 + ((x5 - 1) * z3.1.2.2.2.2.1))   hXX h hQ
            · replace h := zif_neg q h
              clear q
              refine zV_blk (pc' := 121) (lo' := [(12, .int ((x5 - 1) * z3.1.2.2.2.2.1)), (11, .int v18), (10, .ref b5), (8, .long v16), (7, .ref b2), (0, .ref a0), (1, .int x1), (2, .int x2), (3, .int x3), (4, .int x4), (5, .int x5), (6, .int x6)]) (st' := [.long ((v16 + (v18 : Int32).toInt64) - 1), .ref b5, .int (v18 - 1)]) [.iload 11, .iconst 1, .isub, .aload 10, .lload 8, .iload 11, .i2l, .ladd, .lconst 1, .lsub] (by decide +kernel) rfl ?_
              obtain ⟨v21, hv21, h⟩ := zbind h
              refine zV_roV (idx := 328) (rest := [.int (v18 - 1)]) (fs := [.int z3.1.1, .int z3.1.2.1, .ref b13, .int z3.1.2.2.2.1, .int z3.1.2.2.2.2.1, .int z3.1.2.2.2.2.2]) (ci := 3) (fun Q2 hQ2 => ck_weekdayOf s0 D cB cI cJ cD z3.1 ((v16 + (v18 : Int32).toInt64) - 1) b5 v21 hv21 ⟨b13, hc14, hb15⟩ hQ2) oX3_weekdayOf (Or.inl hc14) rfl (zT_mem 1252 (by decide +kernel) rfl) (zT_mem 1081 (by decide +kernel) rfl) (zT_mem 1082 (by decide +kernel) rfl) rfl rfl (Nat.le_of_ble_eq_true rfl) ⟨by decide, by decide⟩ (by decide +kernel) ?_
              refine zV_eq (st2 := [.int v21, .int (v18 - 1)]) rfl rfl rfl rfl ?_
              refine zV_blk (pc' := 129) (lo' := [(12, .int ((x5 - 1) * z3.1.2.2.2.2.1)), (11, .int v18), (10, .ref b5), (8, .long v16), (7, .ref b2), (0, .ref a0), (1, .int x1), (2, .int x2), (3, .int x3), (4, .int x4), (5, .int x5), (6, .int x6)]) (st' := [.ref b5, .int (v21 - x4), .int (v18 - 1)]) [.iload 4, .isub, .aload 10] (by decide +kernel) rfl ?_
              refine zV_get (ci := 3) (idx := 130) (k := 4) (N := 6) (fs := [.int z3.1.1, .int z3.1.2.1, .ref b13, .int z3.1.2.2.2.1, .int z3.1.2.2.2.2.1, .int z3.1.2.2.2.2.2]) (v := .int z3.1.2.2.2.2.1) (Or.inl hc14) rfl z_in3 (by decide) (zT_mem 543 (by decide +kernel) rfl) rfl (by decide +kernel) ?_
              obtain ⟨v22, hv22, h⟩ := zbind h
              refine zV_roS (idx := 332) (rest := [.int (v18 - 1)]) (fun Q2 hQ2 => cj_fmodI s0 D cB cI cJ cD (v21 - x4) z3.1.2.2.2.2.1  v22 hv22  hQ2) oJ9_floorMod_7cf53 (zT_mem 1253 (by decide +kernel) rfl) (zT_mem 649 (by decide +kernel) rfl) rfl rfl (Nat.le_of_ble_eq_true rfl) ⟨by decide, by decide⟩ (by decide +kernel) ?_
              refine zV_eq (st2 := [.int v22, .int (v18 - 1)]) rfl rfl rfl rfl ?_
              refine zV_blk (pc' := 139) (lo' := [(12, .int ((x5 - 1) * z3.1.2.2.2.2.1)), (11, .int v18), (10, .ref b5), (8, .long v16), (7, .ref b2), (0, .ref a0), (1, .int x1), (2, .int x2), (3, .int x3), (4, .int x4), (5, .int x5), (6, .int x6)]) (st' := [.int (((v18 - 1) - v22) - ((x5 - 1) * z3.1.2.2.2.2.1))]) [.isub, .iload 12, .isub] (by decide +kernel) rfl ?_
              refine zV_goto (tgt := 163) (off := 24) (by decide +kernel) (by decide) ?_
              refine zV_pick (lo2 := [(8, .long v16), (11, .int v18)]) [3, 1] rfl ?_
              exact cl_nth_163 s0 D cB cI cJ cD n v16 v18 (((v18 - 1) - v22) - ((x5 - 1) * z3.1.2.2.2.2.1))   hXX h hQ
          · replace h := zif_pos q h
            clear q
            refine zV_ldc2 (idx := 164) (v := (-1000000000000000)) (zT_mem 681 (by decide +kernel) rfl) (by decide +kernel) ?_
            obtain rfl := Option.some.inj h
            exact zV_lret rfl (by decide +kernel) (hQ _ rfl _ _ hXX)
        · replace h := zif_neg q h
          clear q
          refine zV_ldc2 (idx := 164) (v := (-1000000000000000)) (zT_mem 681 (by decide +kernel) rfl) (by decide +kernel) ?_
          obtain rfl := Option.some.inj h
          exact zV_lret rfl (by decide +kernel) (hQ _ rfl _ _ hXX)

def l_next_75 (n : Nat) (x5 : vLaw) (t0 : Int32) : Option (Int64) := (d_leapsBefore n x5 (-100000)).bind (fun v1 => (if (t0 : Int32) ≤ (v1 : Int32) then some (-1000000000000000) else (d_leapsBefore n x5 100001).bind (fun v2 => (if (t0 : Int32) ≤ (v2 : Int32) then (k_yearCompleting n x5 t0).bind (fun v3 => some (v3 : Int32).toInt64) else some (-1000000000000000)))))
set_option maxHeartbeats 4000000 in
set_option maxRecDepth 100000 in
theorem cl_next_75 (s0 : State) (D : va_G) (cB cI cJ cD : ClassId) (n : Nat) (x5 : vLaw) (t0 : Int32) (a5 : Nat) {x : Int64} {hi0 hi hm : zHp} {nx : Nat} {Q : Option Value → zHp → zHp → Nat → Prop} (ho5 : iLaw cI hi a5 x5) (hXX : zX hi0 hi) (h : l_next_75 n x5 t0 = some x) (hQ : ∀ r : Int64, x = r → ∀ (hi' : zHp) (nx' : Nat), zX hi0 hi' → Q (some (.long r)) hi' hm nx') : zV s0 D (zty cB cI cJ cD) yX11_next cX11_next 7 (some .long) 3 69 0 0 75 [(5, .ref a5)] [.int t0] hi hm nx Q := by
  unfold l_next_75 at h
  refine zV_blk (pc' := 81) (lo' := [(6, .int t0), (5, .ref a5)]) (st' := [.ref a5, .int t0]) [.istore 6, .iload 6, .aload 5] (by decide +kernel) rfl ?_
  refine zV_ldcw (idx := 335) (v := (-100000)) (zT_mem 1012 (by decide +kernel) rfl) (by decide +kernel) ?_
  obtain ⟨v1, hv1, h⟩ := zbind h
  refine dc_leapsBefore s0 D cB cI cJ cD (idx := 226) n x5 (-100000) a5 v1 hv1 ho5 (zT_mem 1031 (by decide +kernel) rfl) (rest := [.int t0]) rfl (Nat.le_of_ble_eq_true rfl) ⟨by decide, by decide⟩ (by decide +kernel) ?_
  refine zV_eq (st2 := [.int v1, .int t0]) rfl rfl rfl rfl ?_
  refine zV_icmp_le (tgt := 103) (off := 16) (by decide +kernel) (by decide) (fun q => ?_) (fun q => ?_)
  · replace h := zif_pos q h
    clear q
    refine zV_ldc2 (idx := 164) (v := (-1000000000000000)) (zT_mem 681 (by decide +kernel) rfl) (by decide +kernel) ?_
    obtain rfl := Option.some.inj h
    exact zV_lret rfl (by decide +kernel) (hQ _ rfl _ _ hXX)
  · replace h := zif_neg q h
    clear q
    refine zV_blk (pc' := 94) (lo' := [(6, .int t0), (5, .ref a5)]) (st' := [.ref a5, .int t0]) [.iload 6, .aload 5] (by decide +kernel) rfl ?_
    refine zV_ldcw (idx := 336) (v := 100001) (zT_mem 1258 (by decide +kernel) rfl) (by decide +kernel) ?_
    obtain ⟨v2, hv2, h⟩ := zbind h
    refine dc_leapsBefore s0 D cB cI cJ cD (idx := 226) n x5 100001 a5 v2 hv2 ho5 (zT_mem 1031 (by decide +kernel) rfl) (rest := [.int t0]) rfl (Nat.le_of_ble_eq_true rfl) ⟨by decide, by decide⟩ (by decide +kernel) ?_
    refine zV_eq (st2 := [.int v2, .int t0]) rfl rfl rfl rfl ?_
    refine zV_icmp_le (tgt := 107) (off := 7) (by decide +kernel) (by decide) (fun q => ?_) (fun q => ?_)
    · replace h := zif_pos q h
      clear q
      refine zV_blk (pc' := 111) (lo' := [(6, .int t0), (5, .ref a5)]) (st' := [.int t0, .ref a5]) [.aload 5, .iload 6] (by decide +kernel) rfl ?_
      obtain ⟨v3, hv3, h⟩ := zbind h
      refine zV_roS (idx := 337) (rest := []) (fun Q2 hQ2 => ck_yearCompleting s0 D cB cI cJ cD n x5 t0 a5 v3 hv3 ho5 hQ2) oX11_yearCompleting (zT_mem 1259 (by decide +kernel) rfl) (zT_mem 1260 (by decide +kernel) rfl) rfl rfl (Nat.le_of_ble_eq_true rfl) ⟨by decide, by decide⟩ (by decide +kernel) ?_
      refine zV_eq (st2 := [.int v3]) rfl rfl rfl rfl ?_
      refine zV_blk (pc' := 115) (lo' := [(6, .int t0), (5, .ref a5)]) (st' := [.long (v3 : Int32).toInt64]) [.i2l] (by decide +kernel) rfl ?_
      obtain rfl := Option.some.inj h
      exact zV_lret rfl (by decide +kernel) (hQ _ rfl _ _ hXX)
    · replace h := zif_neg q h
      clear q
      refine zV_ldc2 (idx := 164) (v := (-1000000000000000)) (zT_mem 681 (by decide +kernel) rfl) (by decide +kernel) ?_
      obtain rfl := Option.some.inj h
      exact zV_lret rfl (by decide +kernel) (hQ _ rfl _ _ hXX)
def l_next (n : Nat) (x0 : (Nat → Option vDes)) (x1 : Int32) (x2 : Int32) (x3 : Int32) : Option (Int64) := (k_designAt x0 x1).bind (fun v1 => zOm v1 (some (-1000000000000000)) (fun z3 => (k_isYear x2).bind (fun v5 => (if v5 = true then (if (x3 : Int32) = (0 : Int32) then some (-1000000000000000) else (if (x3 : Int32) < ((-1000) : Int32) then some (-1000000000000000) else (if (x3 : Int32) ≤ (1000 : Int32) then (if (x3 : Int32) ≤ (0 : Int32) then (d_leapsBefore n z3.2.1 x2).bind (fun v13 => (l_next_75 n z3.2.1 ((v13 + x3) + 1))) else (d_leapsBefore n z3.2.1 (x2 + 1)).bind (fun v14 => (l_next_75 n z3.2.1 (v14 + x3)))) else some (-1000000000000000)))) else some (-1000000000000000)))))
theorem oX11_next : zO yX11_next cX11_next 7 (some .long) 3 := ⟨zT_mem 1257 (by decide +kernel) rfl, zT_mem 89 (by decide +kernel) rfl, by decide +kernel, by decide +kernel, by decide +kernel⟩
set_option maxHeartbeats 4000000 in
set_option maxRecDepth 100000 in
theorem cl_next (s0 : State) (D : va_G) (cB cI cJ cD : ClassId) (n : Nat) (x0 : (Nat → Option vDes)) (x1 : Int32) (x2 : Int32) (x3 : Int32) (a0 : Nat) (x : Int64) (h : l_next n x0 x1 x2 x3 = some x) {hi hm : zHp} {nx : Nat} {Q : Option Value → zHp → zHp → Nat → Prop} (ho0 : iLD cI cD hi hm a0 x0) (hQ0 : ∀ (hi' : zHp) (nx' : Nat), zX hi hi' → Q (some (.long x)) hi' hm nx') : zM s0 D (zty cB cI cJ cD) yX11_next cX11_next 7 (some .long) 3 69 0 0 [.ref a0, .int x1, .int x2, .int x3] hi hm nx Q := by
  have hQ : ∀ r : Int64, x = r → ∀ (hi' : zHp) (nx' : Nat), zX hi hi' → Q (some (.long r)) hi' hm nx' := fun r hr => by subst hr; exact hQ0
  clear hQ0
  have hXX : zX hi hi := zX.rf
  refine zM_of (by decide +kernel) (Nat.le_of_ble_eq_true rfl) ?_
  unfold l_next at h
  refine zV_eq (lo2 := [(0, .ref a0), (1, .int x1), (2, .int x2), (3, .int x3)]) rfl rfl rfl rfl ?_
  refine zV_blk (pc' := 2) (lo' := [(0, .ref a0), (1, .int x1), (2, .int x2), (3, .int x3)]) (st' := [.int x1, .ref a0]) [.aload_n 0, .iload_n 1] (by decide +kernel) rfl ?_
  obtain ⟨v1, hv1, h⟩ := zbind h
  refine zV_designAt (idx := 105) (rest := []) v1 hv1 ho0 (zT_mem 603 (by decide +kernel) rfl) rfl (Nat.le_of_ble_eq_true rfl) ⟨by decide, by decide⟩ (by decide +kernel) (fun hx => ?_) (fun b2 z3 hx ho4 => ?_)
  · subst hx; replace h := zOm_none h
    refine zV_blk (pc' := 9) (lo' := [(4, .null), (0, .ref a0), (1, .int x1), (2, .int x2), (3, .int x3)]) (st' := [.null]) [.astore 4, .aload 4] (by decide +kernel) rfl ?_
    refine zV_ifnull (r := none) (tgt := 37) (off := 28) (by decide +kernel) (by decide) (fun _ => ?_) (fun _ q => by cases q)
    refine zV_ldc2 (idx := 164) (v := (-1000000000000000)) (zT_mem 681 (by decide +kernel) rfl) (by decide +kernel) ?_
    obtain rfl := Option.some.inj h
    exact zV_lret rfl (by decide +kernel) (hQ _ rfl _ _ hXX)
  · subst hx; replace h := zOm_some h
    refine zV_blk (pc' := 9) (lo' := [(4, .ref b2), (0, .ref a0), (1, .int x1), (2, .int x2), (3, .int x3)]) (st' := [.ref b2]) [.astore 4, .aload 4] (by decide +kernel) rfl ?_
    refine zV_ifnull (r := some b2) (tgt := 37) (off := 28) (by decide +kernel) (by decide) (fun q => by cases q) (fun _ _ => ?_)
    refine zV_blk (pc' := 13) (lo' := [(4, .ref b2), (0, .ref a0), (1, .int x1), (2, .int x2), (3, .int x3)]) (st' := [.int x2]) [.iload_n 2] (by decide +kernel) rfl ?_
    obtain ⟨v5, hv5, h⟩ := zbind h
    refine zV_roS (idx := 220) (rest := []) (fun Q2 hQ2 => ck_isYear s0 D cB cI cJ cD x2  v5 hv5  hQ2) oX11_isYear (zT_mem 1009 (by decide +kernel) rfl) (zT_mem 1010 (by decide +kernel) rfl) rfl rfl (Nat.le_of_ble_eq_true rfl) ⟨by decide, by decide⟩ (by decide +kernel) ?_
    refine zV_eq (st2 := [.int (zb v5)]) rfl rfl rfl rfl ?_
    refine zV_bif_eq (tgt := 37) (off := 21) (by decide +kernel) (by decide) (fun q => ?_) (fun q => ?_)
    · replace h := zif_neg q h
      clear q
      refine zV_ldc2 (idx := 164) (v := (-1000000000000000)) (zT_mem 681 (by decide +kernel) rfl) (by decide +kernel) ?_
      obtain rfl := Option.some.inj h
      exact zV_lret rfl (by decide +kernel) (hQ _ rfl _ _ hXX)
    · replace h := zif_pos q h
      clear q
      refine zV_blk (pc' := 20) (lo' := [(4, .ref b2), (0, .ref a0), (1, .int x1), (2, .int x2), (3, .int x3)]) (st' := [.int x3]) [.iload_n 3] (by decide +kernel) rfl ?_
      refine zV_if_eq (tgt := 37) (off := 17) (by decide +kernel) (by decide) (fun q => ?_) (fun q => ?_)
      · replace h := zif_pos q h
        clear q
        refine zV_ldc2 (idx := 164) (v := (-1000000000000000)) (zT_mem 681 (by decide +kernel) rfl) (by decide +kernel) ?_
        obtain rfl := Option.some.inj h
        exact zV_lret rfl (by decide +kernel) (hQ _ rfl _ _ hXX)
      · replace h := zif_neg q h
        clear q
        refine zV_blk (pc' := 27) (lo' := [(4, .ref b2), (0, .ref a0), (1, .int x1), (2, .int x2), (3, .int x3)]) (st' := [.int (-1000), .int x3]) [.iload_n 3, .sipush (-1000)] (by decide +kernel) rfl ?_
        refine zV_icmp_lt (tgt := 37) (off := 10) (by decide +kernel) (by decide) (fun q => ?_) (fun q => ?_)
        · replace h := zif_pos q h
          clear q
          refine zV_ldc2 (idx := 164) (v := (-1000000000000000)) (zT_mem 681 (by decide +kernel) rfl) (by decide +kernel) ?_
          obtain rfl := Option.some.inj h
          exact zV_lret rfl (by decide +kernel) (hQ _ rfl _ _ hXX)
        · replace h := zif_neg q h
          clear q
          refine zV_blk (pc' := 34) (lo' := [(4, .ref b2), (0, .ref a0), (1, .int x1), (2, .int x2), (3, .int x3)]) (st' := [.int 1000, .int x3]) [.iload_n 3, .sipush 1000] (by decide +kernel) rfl ?_
          refine zV_icmp_le (tgt := 41) (off := 7) (by decide +kernel) (by decide) (fun q => ?_) (fun q => ?_)
          · replace h := zif_pos q h
            clear q
            refine zV_blk (pc' := 43) (lo' := [(4, .ref b2), (0, .ref a0), (1, .int x1), (2, .int x2), (3, .int x3)]) (st' := [.ref b2]) [.aload 4] (by decide +kernel) rfl ?_
            obtain ⟨b6, b7, b8, hc9, hc10, hc11, hc12⟩ := ho4
            refine zV_get (ci := 0) (idx := 95) (k := 1) (N := 3) (fs := [.ref b6, .ref b7, .ref b8]) (v := .ref b7) (Or.inl hc9) rfl z_in0 (by decide) (zT_mem 566 (by decide +kernel) rfl) rfl (by decide +kernel) ?_
            refine zV_blk (pc' := 49) (lo' := [(5, .ref b7), (4, .ref b2), (0, .ref a0), (1, .int x1), (2, .int x2), (3, .int x3)]) (st' := [.int x3]) [.astore 5, .iload_n 3] (by decide +kernel) rfl ?_
            refine zV_if_le (tgt := 65) (off := 16) (by decide +kernel) (by decide) (fun q => ?_) (fun q => ?_)
            · replace h := zif_pos q h
              clear q
              refine zV_blk (pc' := 68) (lo' := [(5, .ref b7), (4, .ref b2), (0, .ref a0), (1, .int x1), (2, .int x2), (3, .int x3)]) (st' := [.int x2, .ref b7]) [.aload 5, .iload_n 2] (by decide +kernel) rfl ?_
              obtain ⟨v13, hv13, h⟩ := zbind h
              refine dc_leapsBefore s0 D cB cI cJ cD (idx := 226) n z3.2.1 x2 b7 v13 hv13 hc11 (zT_mem 1031 (by decide +kernel) rfl) (rest := []) rfl (Nat.le_of_ble_eq_true rfl) ⟨by decide, by decide⟩ (by decide +kernel) ?_
              refine zV_eq (st2 := [.int v13]) rfl rfl rfl rfl ?_
              refine zV_blk (pc' := 75) (lo' := [(5, .ref b7), (4, .ref b2), (0, .ref a0), (1, .int x1), (2, .int x2), (3, .int x3)]) (st' := [.int ((v13 + x3) + 1)]) [.iload_n 3, .iadd, .iconst 1, .iadd] (by decide +kernel) rfl ?_
              refine zV_pick (lo2 := [(5, .ref b7)]) [0] rfl ?_
              exact cl_next_75 s0 D cB cI cJ cD n z3.2.1 ((v13 + x3) + 1) b7 hc11 hXX h hQ
            · replace h := zif_neg q h
              clear q
              refine zV_blk (pc' := 57) (lo' := [(5, .ref b7), (4, .ref b2), (0, .ref a0), (1, .int x1), (2, .int x2), (3, .int x3)]) (st' := [.int (x2 + 1), .ref b7]) [.aload 5, .iload_n 2, .iconst 1, .iadd] (by decide +kernel) rfl ?_
              obtain ⟨v14, hv14, h⟩ := zbind h
              refine dc_leapsBefore s0 D cB cI cJ cD (idx := 226) n z3.2.1 (x2 + 1) b7 v14 hv14 hc11 (zT_mem 1031 (by decide +kernel) rfl) (rest := []) rfl (Nat.le_of_ble_eq_true rfl) ⟨by decide, by decide⟩ (by decide +kernel) ?_
              refine zV_eq (st2 := [.int v14]) rfl rfl rfl rfl ?_
              refine zV_blk (pc' := 62) (lo' := [(5, .ref b7), (4, .ref b2), (0, .ref a0), (1, .int x1), (2, .int x2), (3, .int x3)]) (st' := [.int (v14 + x3)]) [.iload_n 3, .iadd] (by decide +kernel) rfl ?_
              refine zV_goto (tgt := 75) (off := 13) (by decide +kernel) (by decide) ?_
              refine zV_pick (lo2 := [(5, .ref b7)]) [0] rfl ?_
              exact cl_next_75 s0 D cB cI cJ cD n z3.2.1 (v14 + x3) b7 hc11 hXX h hQ
          · replace h := zif_neg q h
            clear q
            refine zV_ldc2 (idx := 164) (v := (-1000000000000000)) (zT_mem 681 (by decide +kernel) rfl) (by decide +kernel) ?_
            obtain rfl := Option.some.inj h
            exact zV_lret rfl (by decide +kernel) (hQ _ rfl _ _ hXX)

def l_pattern_66 (n : Nat) (x2 : Int32) (x3 : Int32) (x4 : vDes) (x5 : Int64) (x7 : Int32) : Option ((Int64 × Int32) ⊕ (Int64)) := some (.inl (x5, (x7 + 1)))
set_option maxHeartbeats 4000000 in
set_option maxRecDepth 100000 in
theorem cl_pattern_66 (s0 : State) (D : va_G) (cB cI cJ cD : ClassId) (n : Nat) (x2 : Int32) (x3 : Int32) (x4 : vDes) (x5 : Int64) (x7 : Int32) (a4 : Nat) {x : (Int64 × Int32) ⊕ (Int64)} {hi0 hi hm : zHp} {nx : Nat} {Q : Option Value → zHp → zHp → Nat → Prop} (ho4 : iDes cI hi a4 x4) (hXX : zX hi0 hi) (h : l_pattern_66 n x2 x3 x4 x5 x7 = some x) (hL36 : ∀ s : Int64 × Int32, x = (.inl s) → ∀ (hi' : zHp) (nx' : Nat), zX hi0 hi' → hi = hi' → zV s0 D (zty cB cI cJ cD) yX11_pattern cX11_pattern 8 (some .long) 2 44 0 0 36 [(2, .int x2), (3, .int x3), (4, .ref a4), (5, .long s.1), (7, .int s.2)] [] hi' hm nx' Q) (hQ : ∀ r : Int64, x = (.inr r) → ∀ (hi' : zHp) (nx' : Nat), zX hi0 hi' → Q (some (.long r)) hi' hm nx') : zV s0 D (zty cB cI cJ cD) yX11_pattern cX11_pattern 8 (some .long) 2 44 0 0 66 [(2, .int x2), (3, .int x3), (4, .ref a4), (5, .long x5), (7, .int x7)] [] hi hm nx Q := by
  unfold l_pattern_66 at h
  refine zV_blk (pc' := 69) (lo' := [(7, .int (x7 + 1)), (2, .int x2), (3, .int x3), (4, .ref a4), (5, .long x5)]) (st' := []) [.iinc 7 1] (by decide +kernel) rfl ?_
  refine zV_goto (tgt := 36) (off := -33) (by decide +kernel) (by decide) ?_
  obtain rfl := Option.some.inj h
  refine zV_pick (lo2 := [(2, .int x2), (3, .int x3), (4, .ref a4), (5, .long x5), (7, .int (x7 + 1))]) [1, 2, 3, 4, 0] rfl ?_
  exact hL36 _ rfl _ _ hXX rfl
def l_pattern_36 (n : Nat) (x2 : Int32) (x3 : Int32) (x4 : vDes) (s : Int64 × Int32) : Option ((Int64 × Int32) ⊕ (Int64)) := (if (x3 : Int32) ≤ (s.2 : Int32) then some (.inr s.1) else (d_isLeap n x4.2.1 (x2 + s.2)).bind (fun v8 => (if v8 = true then (l_pattern_66 n x2 x3 x4 (s.1 ||| (1 <<< ((s.2 : Int32).toInt64 &&& 63))) s.2 ) else (l_pattern_66 n x2 x3 x4 s.1 s.2 ))))
set_option maxHeartbeats 4000000 in
set_option maxRecDepth 100000 in
theorem cl_pattern_36 (s0 : State) (D : va_G) (cB cI cJ cD : ClassId) (n : Nat) (x2 : Int32) (x3 : Int32) (x4 : vDes) (a4 : Nat) (s : Int64 × Int32) {x : (Int64 × Int32) ⊕ (Int64)} {hi0 hi hm : zHp} {nx : Nat} {Q : Option Value → zHp → zHp → Nat → Prop} (ho4 : iDes cI hi a4 x4) (hXX : zX hi0 hi) (h : l_pattern_36 n x2 x3 x4 s = some x) (hL36 : ∀ s : Int64 × Int32, x = (.inl s) → ∀ (hi' : zHp) (nx' : Nat), zX hi0 hi' → hi = hi' → zV s0 D (zty cB cI cJ cD) yX11_pattern cX11_pattern 8 (some .long) 2 44 0 0 36 [(2, .int x2), (3, .int x3), (4, .ref a4), (5, .long s.1), (7, .int s.2)] [] hi' hm nx' Q) (hQ : ∀ r : Int64, x = (.inr r) → ∀ (hi' : zHp) (nx' : Nat), zX hi0 hi' → Q (some (.long r)) hi' hm nx') : zV s0 D (zty cB cI cJ cD) yX11_pattern cX11_pattern 8 (some .long) 2 44 0 0 36 [(2, .int x2), (3, .int x3), (4, .ref a4), (5, .long s.1), (7, .int s.2)] [] hi hm nx Q := by
  unfold l_pattern_36 at h
  refine zV_blk (pc' := 39) (lo' := [(2, .int x2), (3, .int x3), (4, .ref a4), (5, .long s.1), (7, .int s.2)]) (st' := [.int x3, .int s.2]) [.iload 7, .iload_n 3] (by decide +kernel) rfl ?_
  refine zV_icmp_ge (tgt := 72) (off := 33) (by decide +kernel) (by decide) (fun q => ?_) (fun q => ?_)
  · replace h := zif_pos q h
    clear q
    refine zV_blk (pc' := 74) (lo' := [(2, .int x2), (3, .int x3), (4, .ref a4), (5, .long s.1), (7, .int s.2)]) (st' := [.long s.1]) [.lload 5] (by decide +kernel) rfl ?_
    obtain rfl := Option.some.inj h
    exact zV_lret rfl (by decide +kernel) (hQ _ rfl _ _ hXX)
  · replace h := zif_neg q h
    clear q
    refine zV_blk (pc' := 44) (lo' := [(2, .int x2), (3, .int x3), (4, .ref a4), (5, .long s.1), (7, .int s.2)]) (st' := [.ref a4]) [.aload 4] (by decide +kernel) rfl ?_
    obtain ⟨b1, b2, b3, hc4, hc5, hc6, hc7⟩ := ho4
    refine zV_get (ci := 0) (idx := 95) (k := 1) (N := 3) (fs := [.ref b1, .ref b2, .ref b3]) (v := .ref b2) (Or.inl hc4) rfl z_in0 (by decide) (zT_mem 566 (by decide +kernel) rfl) rfl (by decide +kernel) ?_
    refine zV_blk (pc' := 51) (lo' := [(2, .int x2), (3, .int x3), (4, .ref a4), (5, .long s.1), (7, .int s.2)]) (st' := [.int (x2 + s.2), .ref b2]) [.iload_n 2, .iload 7, .iadd] (by decide +kernel) rfl ?_
    obtain ⟨v8, hv8, h⟩ := zbind h
    refine dc_isLeap s0 D cB cI cJ cD (idx := 223) n x4.2.1 (x2 + s.2) b2 v8 hv8 hc6 (zT_mem 1014 (by decide +kernel) rfl) (rest := []) rfl (Nat.le_of_ble_eq_true rfl) ⟨by decide, by decide⟩ (by decide +kernel) ?_
    refine zV_eq (st2 := [.int (zb v8)]) rfl rfl rfl rfl ?_
    refine zV_bif_eq (tgt := 66) (off := 12) (by decide +kernel) (by decide) (fun q => ?_) (fun q => ?_)
    · replace h := zif_neg q h
      clear q
      refine zV_pick (lo2 := [(2, .int x2), (3, .int x3), (4, .ref a4), (5, .long s.1), (7, .int s.2)]) [0, 1, 2, 3, 4] rfl ?_
      exact cl_pattern_66 s0 D cB cI cJ cD n x2 x3 x4 s.1 s.2  a4 ⟨b1, b2, b3, hc4, hc5, hc6, hc7⟩ hXX h hL36 hQ
    · replace h := zif_pos q h
      clear q
      refine zV_blk (pc' := 66) (lo' := [(5, .long (s.1 ||| (1 <<< ((s.2 : Int32).toInt64 &&& 63)))), (2, .int x2), (3, .int x3), (4, .ref a4), (7, .int s.2)]) (st' := []) [.lload 5, .lconst 1, .iload 7, .lshl, .lor, .lstore 5] (by decide +kernel) rfl ?_
      refine zV_pick (lo2 := [(2, .int x2), (3, .int x3), (4, .ref a4), (5, .long (s.1 ||| (1 <<< ((s.2 : Int32).toInt64 &&& 63)))), (7, .int s.2)]) [1, 2, 3, 0, 4] rfl ?_
      exact cl_pattern_66 s0 D cB cI cJ cD n x2 x3 x4 (s.1 ||| (1 <<< ((s.2 : Int32).toInt64 &&& 63))) s.2  a4 ⟨b1, b2, b3, hc4, hc5, hc6, hc7⟩ hXX h hL36 hQ
theorem cl_pattern_36L (s0 : State) (D : va_G) (cB cI cJ cD : ClassId) (n : Nat) (x2 : Int32) (x3 : Int32) (x4 : vDes) (a4 : Nat) : ∀ (k : Nat) (s : Int64 × Int32) {hi0 hi hm : zHp} {nx : Nat} {Q : Option Value → zHp → zHp → Nat → Prop} (ho4 : iDes cI hi a4 x4) (_ : zX hi0 hi) {x : Int64} (_ : zloop (l_pattern_36 n x2 x3 x4) k s = some x) (hQ : ∀ r : Int64, x = r → ∀ (hi' : zHp) (nx' : Nat), zX hi0 hi' → Q (some (.long r)) hi' hm nx'), zV s0 D (zty cB cI cJ cD) yX11_pattern cX11_pattern 8 (some .long) 2 44 0 0 36 [(2, .int x2), (3, .int x3), (4, .ref a4), (5, .long s.1), (7, .int s.2)] [] hi hm nx Q
  | 0, s, _, _, _, _, _, _, _, _, h, _ => by cases h
  | k + 1, s, hi0, hi, hm, nx, Q, ho4, hXX, x, h, hQ => by
    obtain ⟨z, hz, h1, h2⟩ := zloop_succ h
    exact cl_pattern_36 s0 D cB cI cJ cD n x2 x3 x4 a4 s ho4 hXX hz (fun s' hs hi' nx' hX hi9 => cl_pattern_36L s0 D cB cI cJ cD n x2 x3 x4 a4 k s' (hi9 ▸ ho4) hX (h1 s' hs) hQ) (fun r hr => hQ r (h2 _ hr).symm)
def l_pattern (n : Nat) (x0 : (Nat → Option vDes)) (x1 : Int32) (x2 : Int32) (x3 : Int32) : Option (Int64) := (k_designAt x0 x1).bind (fun v1 => zOm v1 (some (-1000000000000000)) (fun z3 => (if (62 : Int32) < (x3 : Int32) then some (-1000000000000000) else (k_isStretch x2 x3).bind (fun v5 => (if v5 = true then (zloop (l_pattern_36 n x2 x3 z3) n (0, 0)) else some (-1000000000000000))))))
theorem oX11_pattern : zO yX11_pattern cX11_pattern 8 (some .long) 3 := ⟨zT_mem 1266 (by decide +kernel) rfl, zT_mem 89 (by decide +kernel) rfl, by decide +kernel, by decide +kernel, by decide +kernel⟩
set_option maxHeartbeats 4000000 in
set_option maxRecDepth 100000 in
theorem cl_pattern (s0 : State) (D : va_G) (cB cI cJ cD : ClassId) (n : Nat) (x0 : (Nat → Option vDes)) (x1 : Int32) (x2 : Int32) (x3 : Int32) (a0 : Nat) (x : Int64) (h : l_pattern n x0 x1 x2 x3 = some x) {hi hm : zHp} {nx : Nat} {Q : Option Value → zHp → zHp → Nat → Prop} (ho0 : iLD cI cD hi hm a0 x0) (hQ0 : ∀ (hi' : zHp) (nx' : Nat), zX hi hi' → Q (some (.long x)) hi' hm nx') : zM s0 D (zty cB cI cJ cD) yX11_pattern cX11_pattern 8 (some .long) 2 44 0 0 [.ref a0, .int x1, .int x2, .int x3] hi hm nx Q := by
  have hQ : ∀ r : Int64, x = r → ∀ (hi' : zHp) (nx' : Nat), zX hi hi' → Q (some (.long r)) hi' hm nx' := fun r hr => by subst hr; exact hQ0
  clear hQ0
  have hXX : zX hi hi := zX.rf
  refine zM_of (by decide +kernel) (Nat.le_of_ble_eq_true rfl) ?_
  unfold l_pattern at h
  refine zV_eq (lo2 := [(0, .ref a0), (1, .int x1), (2, .int x2), (3, .int x3)]) rfl rfl rfl rfl ?_
  refine zV_blk (pc' := 2) (lo' := [(0, .ref a0), (1, .int x1), (2, .int x2), (3, .int x3)]) (st' := [.int x1, .ref a0]) [.aload_n 0, .iload_n 1] (by decide +kernel) rfl ?_
  obtain ⟨v1, hv1, h⟩ := zbind h
  refine zV_designAt (idx := 105) (rest := []) v1 hv1 ho0 (zT_mem 603 (by decide +kernel) rfl) rfl (Nat.le_of_ble_eq_true rfl) ⟨by decide, by decide⟩ (by decide +kernel) (fun hx => ?_) (fun b2 z3 hx ho4 => ?_)
  · subst hx; replace h := zOm_none h
    refine zV_blk (pc' := 9) (lo' := [(4, .null), (0, .ref a0), (1, .int x1), (2, .int x2), (3, .int x3)]) (st' := [.null]) [.astore 4, .aload 4] (by decide +kernel) rfl ?_
    refine zV_ifnull (r := none) (tgt := 26) (off := 17) (by decide +kernel) (by decide) (fun _ => ?_) (fun _ q => by cases q)
    refine zV_ldc2 (idx := 164) (v := (-1000000000000000)) (zT_mem 681 (by decide +kernel) rfl) (by decide +kernel) ?_
    obtain rfl := Option.some.inj h
    exact zV_lret rfl (by decide +kernel) (hQ _ rfl _ _ hXX)
  · subst hx; replace h := zOm_some h
    refine zV_blk (pc' := 9) (lo' := [(4, .ref b2), (0, .ref a0), (1, .int x1), (2, .int x2), (3, .int x3)]) (st' := [.ref b2]) [.astore 4, .aload 4] (by decide +kernel) rfl ?_
    refine zV_ifnull (r := some b2) (tgt := 26) (off := 17) (by decide +kernel) (by decide) (fun q => by cases q) (fun _ _ => ?_)
    refine zV_blk (pc' := 15) (lo' := [(4, .ref b2), (0, .ref a0), (1, .int x1), (2, .int x2), (3, .int x3)]) (st' := [.int 62, .int x3]) [.iload_n 3, .bipush 62] (by decide +kernel) rfl ?_
    refine zV_icmp_gt (tgt := 26) (off := 11) (by decide +kernel) (by decide) (fun q => ?_) (fun q => ?_)
    · replace h := zif_pos q h
      clear q
      refine zV_ldc2 (idx := 164) (v := (-1000000000000000)) (zT_mem 681 (by decide +kernel) rfl) (by decide +kernel) ?_
      obtain rfl := Option.some.inj h
      exact zV_lret rfl (by decide +kernel) (hQ _ rfl _ _ hXX)
    · replace h := zif_neg q h
      clear q
      refine zV_blk (pc' := 20) (lo' := [(4, .ref b2), (0, .ref a0), (1, .int x1), (2, .int x2), (3, .int x3)]) (st' := [.int x3, .int x2]) [.iload_n 2, .iload_n 3] (by decide +kernel) rfl ?_
      obtain ⟨v5, hv5, h⟩ := zbind h
      refine zV_roS (idx := 315) (rest := []) (fun Q2 hQ2 => ck_isStretch s0 D cB cI cJ cD x2 x3  v5 hv5  hQ2) oX11_isStretch (zT_mem 1233 (by decide +kernel) rfl) (zT_mem 1234 (by decide +kernel) rfl) rfl rfl (Nat.le_of_ble_eq_true rfl) ⟨by decide, by decide⟩ (by decide +kernel) ?_
      refine zV_eq (st2 := [.int (zb v5)]) rfl rfl rfl rfl ?_
      refine zV_bif_ne (tgt := 30) (off := 7) (by decide +kernel) (by decide) (fun q => ?_) (fun q => ?_)
      · replace h := zif_pos q h
        clear q
        refine zV_blk (pc' := 36) (lo' := [(7, .int 0), (5, .long 0), (4, .ref b2), (0, .ref a0), (1, .int x1), (2, .int x2), (3, .int x3)]) (st' := []) [.lconst 0, .lstore 5, .iconst 0, .istore 7] (by decide +kernel) rfl ?_
        refine zV_pick (lo2 := [(2, .int x2), (3, .int x3), (4, .ref b2), (5, .long 0), (7, .int 0)]) [5, 6, 2, 1, 0] rfl ?_
        exact cl_pattern_36L s0 D cB cI cJ cD n x2 x3 z3 b2 n (0, 0)  ho4  hXX h hQ
      · replace h := zif_neg q h
        clear q
        refine zV_ldc2 (idx := 164) (v := (-1000000000000000)) (zT_mem 681 (by decide +kernel) rfl) (by decide +kernel) ?_
        obtain rfl := Option.some.inj h
        exact zV_lret rfl (by decide +kernel) (hQ _ rfl _ _ hXX)

