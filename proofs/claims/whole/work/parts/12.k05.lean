def k_tellDate (n : Nat) (x0 : vDes) (x1 : Int64) (x3 : Int32) : Option (Int64) := (k_holds n x0 x1).bind (fun v1 => (if v1 = true then (k_yearOf n x0 x1).bind (fun v9 => (d_isLeap n x0.2.1 v9).bind (fun v10 => (k_startOf n x0 v9).bind (fun v11 => (k_monthOf n x0.1 ((x1 - v11) : Int64).toInt32 (zb v10)).bind (fun v12 => (if (x3 : Int32) = 0 then some (v9 : Int32).toInt64 else (if (x3 : Int32) = 1 then some (((x1 - v11) : Int64).toInt32 : Int32).toInt64 else (if (x3 : Int32) = 2 then some (v12 : Int32).toInt64 else (if (x3 : Int32) = 3 then (k_monthOffset n x0.1 v12 (zb v10)).bind (fun v20 => some ((((x1 - v11) : Int64).toInt32 - v20) : Int32).toInt64) else (if (x3 : Int32) = 4 then (k_weekdayOf x0.1 x1).bind (fun v22 => some (v22 : Int32).toInt64) else some (-1000000000000000)))))))))) else some (-1000000000000000)))
theorem oX0_tellDate : zO yX0_tellDate cX0_tellDate 8 (some .long) 2 := ⟨zT_mem 1057 (by decide +kernel) rfl, zT_mem 105 (by decide +kernel) rfl, by decide +kernel, by decide +kernel, by decide +kernel⟩
set_option maxHeartbeats 4000000 in
set_option maxRecDepth 100000 in
theorem ck_tellDate (s0 : State) (D : va_G) (cB cI cJ cD : ClassId) (n : Nat) (x0 : vDes) (x1 : Int64) (x3 : Int32) (a0 : Nat) (x : Int64) (h : k_tellDate n x0 x1 x3 = some x) {hi hm : zHp} {nx : Nat} {Q : Option Value → zHp → zHp → Nat → Prop} (ho0 : iDes cI hi a0 x0) (hQ0 : Q (some (.long x)) hi hm nx) : zM s0 D (zty cB cI cJ cD) yX0_tellDate cX0_tellDate 8 (some .long) 4 91 0 0 [.ref a0, .long x1, .int x3] hi hm nx Q := by
  have hQ : ∀ r : Int64, x = r → Q (some (.long r)) hi hm nx := fun r hr => by subst hr; exact hQ0
  clear hQ0
  refine zM_of (by decide +kernel) (Nat.le_of_ble_eq_true rfl) ?_
  unfold k_tellDate at h
  refine zV_eq (lo2 := [(0, .ref a0), (1, .long x1), (3, .int x3)]) rfl rfl rfl rfl ?_
  refine zV_blk (pc' := 2) (lo' := [(0, .ref a0), (1, .long x1), (3, .int x3)]) (st' := [.long x1, .ref a0]) [.aload_n 0, .lload_n 1] (by decide +kernel) rfl ?_
  obtain ⟨v1, hv1, h⟩ := zbind h
  obtain ⟨b2, b3, b4, hc5, hc6, hc7, hc8⟩ := ho0
  refine zV_roV (idx := 104) (rest := []) (fs := [.ref b2, .ref b3, .ref b4]) (ci := 0) (fun Q2 hQ2 => ck_holds s0 D cB cI cJ cD n x0 x1 a0 v1 hv1 ⟨b2, b3, b4, hc5, hc6, hc7, hc8⟩ hQ2) oX0_holds (Or.inl hc5) rfl (zT_mem 1058 (by decide +kernel) rfl) (zT_mem 1059 (by decide +kernel) rfl) (zT_mem 1060 (by decide +kernel) rfl) rfl rfl (Nat.le_of_ble_eq_true rfl) ⟨by decide, by decide⟩ (by decide +kernel) ?_
  refine zV_eq (st2 := [.int (zb v1)]) rfl rfl rfl rfl ?_
  refine zV_bif_ne (tgt := 12) (off := 7) (by decide +kernel) (by decide) (fun q => ?_) (fun q => ?_)
  · replace h := zif_pos q h
    clear q
    refine zV_blk (pc' := 14) (lo' := [(0, .ref a0), (1, .long x1), (3, .int x3)]) (st' := [.long x1, .ref a0]) [.aload_n 0, .lload_n 1] (by decide +kernel) rfl ?_
    obtain ⟨v9, hv9, h⟩ := zbind h
    refine zV_roV (idx := 108) (rest := []) (fs := [.ref b2, .ref b3, .ref b4]) (ci := 0) (fun Q2 hQ2 => ck_yearOf s0 D cB cI cJ cD n x0 x1 a0 v9 hv9 ⟨b2, b3, b4, hc5, hc6, hc7, hc8⟩ hQ2) oX0_yearOf (Or.inl hc5) rfl (zT_mem 1065 (by decide +kernel) rfl) (zT_mem 1066 (by decide +kernel) rfl) (zT_mem 1067 (by decide +kernel) rfl) rfl rfl (Nat.le_of_ble_eq_true rfl) ⟨by decide, by decide⟩ (by decide +kernel) ?_
    refine zV_eq (st2 := [.int v9]) rfl rfl rfl rfl ?_
    refine zV_blk (pc' := 20) (lo' := [(4, .int v9), (0, .ref a0), (1, .long x1), (3, .int x3)]) (st' := [.ref a0]) [.istore 4, .aload_n 0] (by decide +kernel) rfl ?_
    refine zV_get (ci := 0) (idx := 15) (k := 1) (N := 3) (fs := [.ref b2, .ref b3, .ref b4]) (v := .ref b3) (Or.inl hc5) rfl z_in0 (by decide) (zT_mem 565 (by decide +kernel) rfl) rfl (by decide +kernel) ?_
    refine zV_blk (pc' := 25) (lo' := [(4, .int v9), (0, .ref a0), (1, .long x1), (3, .int x3)]) (st' := [.int v9, .ref b3]) [.iload 4] (by decide +kernel) rfl ?_
    obtain ⟨v10, hv10, h⟩ := zbind h
    refine dc_isLeap s0 D cB cI cJ cD (idx := 70) n x0.2.1 v9 b3 v10 hv10 hc7 (zT_mem 1045 (by decide +kernel) rfl) (rest := []) rfl (Nat.le_of_ble_eq_true rfl) ⟨by decide, by decide⟩ (by decide +kernel) ?_
    refine zV_eq (st2 := [.int (zb v10)]) rfl rfl rfl rfl ?_
    refine zV_blk (pc' := 34) (lo' := [(5, .int (zb v10)), (4, .int v9), (0, .ref a0), (1, .long x1), (3, .int x3)]) (st' := [.int v9, .ref a0, .long x1]) [.istore 5, .lload_n 1, .aload_n 0, .iload 4] (by decide +kernel) rfl ?_
    obtain ⟨v11, hv11, h⟩ := zbind h
    refine zV_roV (idx := 47) (rest := [.long x1]) (fs := [.ref b2, .ref b3, .ref b4]) (ci := 0) (fun Q2 hQ2 => ck_startOf s0 D cB cI cJ cD n x0 v9 a0 v11 hv11 ⟨b2, b3, b4, hc5, hc6, hc7, hc8⟩ hQ2) oX0_startOf (Or.inl hc5) rfl (zT_mem 718 (by decide +kernel) rfl) (zT_mem 719 (by decide +kernel) rfl) (zT_mem 720 (by decide +kernel) rfl) rfl rfl (Nat.le_of_ble_eq_true rfl) ⟨by decide, by decide⟩ (by decide +kernel) ?_
    refine zV_eq (st2 := [.long v11, .long x1]) rfl rfl rfl rfl ?_
    refine zV_blk (pc' := 42) (lo' := [(6, .int ((x1 - v11) : Int64).toInt32), (5, .int (zb v10)), (4, .int v9), (0, .ref a0), (1, .long x1), (3, .int x3)]) (st' := [.ref a0]) [.lsub, .l2i, .istore 6, .aload_n 0] (by decide +kernel) rfl ?_
    refine zV_get (ci := 0) (idx := 9) (k := 0) (N := 3) (fs := [.ref b2, .ref b3, .ref b4]) (v := .ref b2) (Or.inl hc5) rfl z_in0 (by decide) (zT_mem 563 (by decide +kernel) rfl) rfl (by decide +kernel) ?_
    refine zV_blk (pc' := 49) (lo' := [(6, .int ((x1 - v11) : Int64).toInt32), (5, .int (zb v10)), (4, .int v9), (0, .ref a0), (1, .long x1), (3, .int x3)]) (st' := [.int (zb v10), .int ((x1 - v11) : Int64).toInt32, .ref b2]) [.iload 6, .iload 5] (by decide +kernel) rfl ?_
    obtain ⟨v12, hv12, h⟩ := zbind h
    obtain ⟨b13, hc14, hb15⟩ := hc6
    refine zV_roV (idx := 112) (rest := []) (fs := [.int x0.1.1, .int x0.1.2.1, .ref b13, .int x0.1.2.2.2.1, .int x0.1.2.2.2.2.1, .int x0.1.2.2.2.2.2]) (ci := 3) (fun Q2 hQ2 => ck_monthOf s0 D cB cI cJ cD n x0.1 ((x1 - v11) : Int64).toInt32 (zb v10) b2 v12 hv12 ⟨b13, hc14, hb15⟩ hQ2) oX3_monthOf (Or.inl hc14) rfl (zT_mem 1071 (by decide +kernel) rfl) (zT_mem 1072 (by decide +kernel) rfl) (zT_mem 1073 (by decide +kernel) rfl) rfl rfl (Nat.le_of_ble_eq_true rfl) ⟨by decide, by decide⟩ (by decide +kernel) ?_
    refine zV_eq (st2 := [.int v12]) rfl rfl rfl rfl ?_
    refine zV_blk (pc' := 55) (lo' := [(7, .int v12), (6, .int ((x1 - v11) : Int64).toInt32), (5, .int (zb v10)), (4, .int v9), (0, .ref a0), (1, .long x1), (3, .int x3)]) (st' := [.int x3]) [.istore 7, .iload_n 3] (by decide +kernel) rfl ?_
    by_cases q16 : (x3 : Int32) = 0
    · replace h := zif_pos q16 h
      refine zV_tin (tgt := 88) (off := 33) (dflt := 71) (l1 := 0) (h1 := 4) (offs := #[33, 37, 41, 45, 61]) (len := 33) 0 q16 (by decide +kernel) (by decide +kernel) (by decide +kernel) (by decide +kernel) (by decide) ?_
      refine zV_blk (pc' := 91) (lo' := [(7, .int v12), (6, .int ((x1 - v11) : Int64).toInt32), (5, .int (zb v10)), (4, .int v9), (0, .ref a0), (1, .long x1), (3, .int x3)]) (st' := [.long (v9 : Int32).toInt64]) [.iload 4, .i2l] (by decide +kernel) rfl ?_
      obtain rfl := Option.some.inj h
      exact zV_lret rfl (by decide +kernel) (hQ _ rfl)
    · replace h := zif_neg q16 h
      by_cases q17 : (x3 : Int32) = 1
      · replace h := zif_pos q17 h
        refine zV_tin (tgt := 92) (off := 37) (dflt := 71) (l1 := 0) (h1 := 4) (offs := #[33, 37, 41, 45, 61]) (len := 33) 1 q17 (by decide +kernel) (by decide +kernel) (by decide +kernel) (by decide +kernel) (by decide) ?_
        refine zV_blk (pc' := 95) (lo' := [(7, .int v12), (6, .int ((x1 - v11) : Int64).toInt32), (5, .int (zb v10)), (4, .int v9), (0, .ref a0), (1, .long x1), (3, .int x3)]) (st' := [.long (((x1 - v11) : Int64).toInt32 : Int32).toInt64]) [.iload 6, .i2l] (by decide +kernel) rfl ?_
        obtain rfl := Option.some.inj h
        exact zV_lret rfl (by decide +kernel) (hQ _ rfl)
      · replace h := zif_neg q17 h
        by_cases q18 : (x3 : Int32) = 2
        · replace h := zif_pos q18 h
          refine zV_tin (tgt := 96) (off := 41) (dflt := 71) (l1 := 0) (h1 := 4) (offs := #[33, 37, 41, 45, 61]) (len := 33) 2 q18 (by decide +kernel) (by decide +kernel) (by decide +kernel) (by decide +kernel) (by decide) ?_
          refine zV_blk (pc' := 99) (lo' := [(7, .int v12), (6, .int ((x1 - v11) : Int64).toInt32), (5, .int (zb v10)), (4, .int v9), (0, .ref a0), (1, .long x1), (3, .int x3)]) (st' := [.long (v12 : Int32).toInt64]) [.iload 7, .i2l] (by decide +kernel) rfl ?_
          obtain rfl := Option.some.inj h
          exact zV_lret rfl (by decide +kernel) (hQ _ rfl)
        · replace h := zif_neg q18 h
          by_cases q19 : (x3 : Int32) = 3
          · replace h := zif_pos q19 h
            refine zV_tin (tgt := 100) (off := 45) (dflt := 71) (l1 := 0) (h1 := 4) (offs := #[33, 37, 41, 45, 61]) (len := 33) 3 q19 (by decide +kernel) (by decide +kernel) (by decide +kernel) (by decide +kernel) (by decide) ?_
            refine zV_blk (pc' := 103) (lo' := [(7, .int v12), (6, .int ((x1 - v11) : Int64).toInt32), (5, .int (zb v10)), (4, .int v9), (0, .ref a0), (1, .long x1), (3, .int x3)]) (st' := [.ref a0, .int ((x1 - v11) : Int64).toInt32]) [.iload 6, .aload_n 0] (by decide +kernel) rfl ?_
            refine zV_get (ci := 0) (idx := 9) (k := 0) (N := 3) (fs := [.ref b2, .ref b3, .ref b4]) (v := .ref b2) (Or.inl hc5) rfl z_in0 (by decide) (zT_mem 563 (by decide +kernel) rfl) rfl (by decide +kernel) ?_
            refine zV_blk (pc' := 110) (lo' := [(7, .int v12), (6, .int ((x1 - v11) : Int64).toInt32), (5, .int (zb v10)), (4, .int v9), (0, .ref a0), (1, .long x1), (3, .int x3)]) (st' := [.int (zb v10), .int v12, .ref b2, .int ((x1 - v11) : Int64).toInt32]) [.iload 7, .iload 5] (by decide +kernel) rfl ?_
            obtain ⟨v20, hv20, h⟩ := zbind h
            refine zV_roV (idx := 101) (rest := [.int ((x1 - v11) : Int64).toInt32]) (fs := [.int x0.1.1, .int x0.1.2.1, .ref b13, .int x0.1.2.2.2.1, .int x0.1.2.2.2.2.1, .int x0.1.2.2.2.2.2]) (ci := 3) (fun Q2 hQ2 => ck_monthOffset s0 D cB cI cJ cD n x0.1 v12 (zb v10) b2 v20 hv20 ⟨b13, hc14, hb15⟩ hQ2) oX3_monthOffset (Or.inl hc14) rfl (zT_mem 1076 (by decide +kernel) rfl) (zT_mem 1077 (by decide +kernel) rfl) (zT_mem 1078 (by decide +kernel) rfl) rfl rfl (Nat.le_of_ble_eq_true rfl) ⟨by decide, by decide⟩ (by decide +kernel) ?_
            refine zV_eq (st2 := [.int v20, .int ((x1 - v11) : Int64).toInt32]) rfl rfl rfl rfl ?_
            refine zV_blk (pc' := 115) (lo' := [(7, .int v12), (6, .int ((x1 - v11) : Int64).toInt32), (5, .int (zb v10)), (4, .int v9), (0, .ref a0), (1, .long x1), (3, .int x3)]) (st' := [.long ((((x1 - v11) : Int64).toInt32 - v20) : Int32).toInt64]) [.isub, .i2l] (by decide +kernel) rfl ?_
            obtain rfl := Option.some.inj h
            exact zV_lret rfl (by decide +kernel) (hQ _ rfl)
          · replace h := zif_neg q19 h
            by_cases q21 : (x3 : Int32) = 4
            · replace h := zif_pos q21 h
              refine zV_tin (tgt := 116) (off := 61) (dflt := 71) (l1 := 0) (h1 := 4) (offs := #[33, 37, 41, 45, 61]) (len := 33) 4 q21 (by decide +kernel) (by decide +kernel) (by decide +kernel) (by decide +kernel) (by decide) ?_
              refine zV_blk (pc' := 117) (lo' := [(7, .int v12), (6, .int ((x1 - v11) : Int64).toInt32), (5, .int (zb v10)), (4, .int v9), (0, .ref a0), (1, .long x1), (3, .int x3)]) (st' := [.ref a0]) [.aload_n 0] (by decide +kernel) rfl ?_
              refine zV_get (ci := 0) (idx := 9) (k := 0) (N := 3) (fs := [.ref b2, .ref b3, .ref b4]) (v := .ref b2) (Or.inl hc5) rfl z_in0 (by decide) (zT_mem 563 (by decide +kernel) rfl) rfl (by decide +kernel) ?_
              refine zV_blk (pc' := 121) (lo' := [(7, .int v12), (6, .int ((x1 - v11) : Int64).toInt32), (5, .int (zb v10)), (4, .int v9), (0, .ref a0), (1, .long x1), (3, .int x3)]) (st' := [.long x1, .ref b2]) [.lload_n 1] (by decide +kernel) rfl ?_
              obtain ⟨v22, hv22, h⟩ := zbind h
              refine zV_roV (idx := 115) (rest := []) (fs := [.int x0.1.1, .int x0.1.2.1, .ref b13, .int x0.1.2.2.2.1, .int x0.1.2.2.2.2.1, .int x0.1.2.2.2.2.2]) (ci := 3) (fun Q2 hQ2 => ck_weekdayOf s0 D cB cI cJ cD x0.1 x1 b2 v22 hv22 ⟨b13, hc14, hb15⟩ hQ2) oX3_weekdayOf (Or.inl hc14) rfl (zT_mem 1080 (by decide +kernel) rfl) (zT_mem 1081 (by decide +kernel) rfl) (zT_mem 1082 (by decide +kernel) rfl) rfl rfl (Nat.le_of_ble_eq_true rfl) ⟨by decide, by decide⟩ (by decide +kernel) ?_
              refine zV_eq (st2 := [.int v22]) rfl rfl rfl rfl ?_
              refine zV_blk (pc' := 125) (lo' := [(7, .int v12), (6, .int ((x1 - v11) : Int64).toInt32), (5, .int (zb v10)), (4, .int v9), (0, .ref a0), (1, .long x1), (3, .int x3)]) (st' := [.long (v22 : Int32).toInt64]) [.i2l] (by decide +kernel) rfl ?_
              obtain rfl := Option.some.inj h
              exact zV_lret rfl (by decide +kernel) (hQ _ rfl)
            · replace h := zif_neg q21 h
              refine zV_tout (tgt := 126) (dflt := 71) (l1 := 0) (h1 := 4) (offs := #[33, 37, 41, 45, 61]) (len := 33) (by have nq16 := zne 0 0 (by decide +kernel) q16; have nq17 := zne 1 1 (by decide +kernel) q17; have nq18 := zne 2 2 (by decide +kernel) q18; have nq19 := zne 3 3 (by decide +kernel) q19; have nq21 := zne 4 4 (by decide +kernel) q21; omega) (by decide +kernel) (by decide) ?_
              refine zV_ldc2 (idx := 95) (v := (-1000000000000000)) (zT_mem 1064 (by decide +kernel) rfl) (by decide +kernel) ?_
              obtain rfl := Option.some.inj h
              exact zV_lret rfl (by decide +kernel) (hQ _ rfl)
  · replace h := zif_neg q h
    clear q
    refine zV_ldc2 (idx := 95) (v := (-1000000000000000)) (zT_mem 1064 (by decide +kernel) rfl) (by decide +kernel) ?_
    obtain rfl := Option.some.inj h
    exact zV_lret rfl (by decide +kernel) (hQ _ rfl)

def k_slipUnits (n : Nat) (x0 : vDes) (x1 : Int32) : Option (Int64) := (k_startOf n x0 x1).bind (fun v1 => (k_unitsOfDay x0.2.2).bind (fun v9 => (k_unitsOfYear x0.2.2).bind (fun v10 => some ((v1 * v9) - ((x1 : Int32).toInt64 * v10)))))
theorem oX0_slipUnits : zO yX0_slipUnits cX0_slipUnits 2 (some .long) 1 := ⟨zT_mem 1125 (by decide +kernel) rfl, zT_mem 105 (by decide +kernel) rfl, by decide +kernel, by decide +kernel, by decide +kernel⟩
set_option maxHeartbeats 4000000 in
set_option maxRecDepth 100000 in
theorem ck_slipUnits (s0 : State) (D : va_G) (cB cI cJ cD : ClassId) (n : Nat) (x0 : vDes) (x1 : Int32) (a0 : Nat) (x : Int64) (h : k_slipUnits n x0 x1 = some x) {hi hm : zHp} {nx : Nat} {Q : Option Value → zHp → zHp → Nat → Prop} (ho0 : iDes cI hi a0 x0) (hQ0 : Q (some (.long x)) hi hm nx) : zM s0 D (zty cB cI cJ cD) yX0_slipUnits cX0_slipUnits 2 (some .long) 3 67 0 0 [.ref a0, .int x1] hi hm nx Q := by
  have hQ : ∀ r : Int64, x = r → Q (some (.long r)) hi hm nx := fun r hr => by subst hr; exact hQ0
  clear hQ0
  refine zM_of (by decide +kernel) (Nat.le_of_ble_eq_true rfl) ?_
  unfold k_slipUnits at h
  refine zV_eq (lo2 := [(0, .ref a0), (1, .int x1)]) rfl rfl rfl rfl ?_
  refine zV_blk (pc' := 2) (lo' := [(0, .ref a0), (1, .int x1)]) (st' := [.int x1, .ref a0]) [.aload_n 0, .iload_n 1] (by decide +kernel) rfl ?_
  obtain ⟨v1, hv1, h⟩ := zbind h
  obtain ⟨b2, b3, b4, hc5, hc6, hc7, hc8⟩ := ho0
  refine zV_roV (idx := 47) (rest := []) (fs := [.ref b2, .ref b3, .ref b4]) (ci := 0) (fun Q2 hQ2 => ck_startOf s0 D cB cI cJ cD n x0 x1 a0 v1 hv1 ⟨b2, b3, b4, hc5, hc6, hc7, hc8⟩ hQ2) oX0_startOf (Or.inl hc5) rfl (zT_mem 718 (by decide +kernel) rfl) (zT_mem 719 (by decide +kernel) rfl) (zT_mem 720 (by decide +kernel) rfl) rfl rfl (Nat.le_of_ble_eq_true rfl) ⟨by decide, by decide⟩ (by decide +kernel) ?_
  refine zV_eq (st2 := [.long v1]) rfl rfl rfl rfl ?_
  refine zV_blk (pc' := 6) (lo' := [(0, .ref a0), (1, .int x1)]) (st' := [.ref a0, .long v1]) [.aload_n 0] (by decide +kernel) rfl ?_
  refine zV_get (ci := 0) (idx := 19) (k := 2) (N := 3) (fs := [.ref b2, .ref b3, .ref b4]) (v := .ref b4) (Or.inl hc5) rfl z_in0 (by decide) (zT_mem 567 (by decide +kernel) rfl) rfl (by decide +kernel) ?_
  obtain ⟨v9, hv9, h⟩ := zbind h
  refine zV_roV (idx := 118) (rest := [.long v1]) (fs := [.int x0.2.2.1, .int x0.2.2.2.1, .int x0.2.2.2.2.1, .int x0.2.2.2.2.2.1, .int x0.2.2.2.2.2.2]) (ci := 10) (fun Q2 hQ2 => ck_unitsOfDay s0 D cB cI cJ cD x0.2.2 b4 v9 hv9 hc8 hQ2) oX10_unitsOfDay (Or.inl hc8) rfl (zT_mem 1126 (by decide +kernel) rfl) (zT_mem 1127 (by decide +kernel) rfl) (zT_mem 1128 (by decide +kernel) rfl) rfl rfl (Nat.le_of_ble_eq_true rfl) ⟨by decide, by decide⟩ (by decide +kernel) ?_
  refine zV_eq (st2 := [.long v9, .long v1]) rfl rfl rfl rfl ?_
  refine zV_blk (pc' := 16) (lo' := [(0, .ref a0), (1, .int x1)]) (st' := [.ref a0, .long (x1 : Int32).toInt64, .long (v1 * v9)]) [.lmul, .iload_n 1, .i2l, .aload_n 0] (by decide +kernel) rfl ?_
  refine zV_get (ci := 0) (idx := 19) (k := 2) (N := 3) (fs := [.ref b2, .ref b3, .ref b4]) (v := .ref b4) (Or.inl hc5) rfl z_in0 (by decide) (zT_mem 567 (by decide +kernel) rfl) rfl (by decide +kernel) ?_
  obtain ⟨v10, hv10, h⟩ := zbind h
  refine zV_roV (idx := 122) (rest := [.long (x1 : Int32).toInt64, .long (v1 * v9)]) (fs := [.int x0.2.2.1, .int x0.2.2.2.1, .int x0.2.2.2.2.1, .int x0.2.2.2.2.2.1, .int x0.2.2.2.2.2.2]) (ci := 10) (fun Q2 hQ2 => ck_unitsOfYear s0 D cB cI cJ cD x0.2.2 b4 v10 hv10 hc8 hQ2) oX10_unitsOfYear (Or.inl hc8) rfl (zT_mem 1130 (by decide +kernel) rfl) (zT_mem 1131 (by decide +kernel) rfl) (zT_mem 1132 (by decide +kernel) rfl) rfl rfl (Nat.le_of_ble_eq_true rfl) ⟨by decide, by decide⟩ (by decide +kernel) ?_
  refine zV_eq (st2 := [.long v10, .long (x1 : Int32).toInt64, .long (v1 * v9)]) rfl rfl rfl rfl ?_
  refine zV_blk (pc' := 24) (lo' := [(0, .ref a0), (1, .int x1)]) (st' := [.long ((v1 * v9) - ((x1 : Int32).toInt64 * v10))]) [.lmul, .lsub] (by decide +kernel) rfl ?_
  obtain rfl := Option.some.inj h
  exact zV_lret rfl (by decide +kernel) (hQ _ rfl)

def k_driftUnits (n : Nat) (x0 : vDes) (x1 : Int32) : Option (Int64) := (k_slipUnits n x0 x1).bind (fun v1 => (k_beginUnits x0.2.2).bind (fun v9 => some (v1 - v9)))
theorem oX0_driftUnits : zO yX0_driftUnits cX0_driftUnits 2 (some .long) 1 := ⟨zT_mem 1121 (by decide +kernel) rfl, zT_mem 105 (by decide +kernel) rfl, by decide +kernel, by decide +kernel, by decide +kernel⟩
set_option maxHeartbeats 4000000 in
set_option maxRecDepth 100000 in
theorem ck_driftUnits (s0 : State) (D : va_G) (cB cI cJ cD : ClassId) (n : Nat) (x0 : vDes) (x1 : Int32) (a0 : Nat) (x : Int64) (h : k_driftUnits n x0 x1 = some x) {hi hm : zHp} {nx : Nat} {Q : Option Value → zHp → zHp → Nat → Prop} (ho0 : iDes cI hi a0 x0) (hQ0 : Q (some (.long x)) hi hm nx) : zM s0 D (zty cB cI cJ cD) yX0_driftUnits cX0_driftUnits 2 (some .long) 4 88 0 0 [.ref a0, .int x1] hi hm nx Q := by
  have hQ : ∀ r : Int64, x = r → Q (some (.long r)) hi hm nx := fun r hr => by subst hr; exact hQ0
  clear hQ0
  refine zM_of (by decide +kernel) (Nat.le_of_ble_eq_true rfl) ?_
  unfold k_driftUnits at h
  refine zV_eq (lo2 := [(0, .ref a0), (1, .int x1)]) rfl rfl rfl rfl ?_
  refine zV_blk (pc' := 2) (lo' := [(0, .ref a0), (1, .int x1)]) (st' := [.int x1, .ref a0]) [.aload_n 0, .iload_n 1] (by decide +kernel) rfl ?_
  obtain ⟨v1, hv1, h⟩ := zbind h
  obtain ⟨b2, b3, b4, hc5, hc6, hc7, hc8⟩ := ho0
  refine zV_roV (idx := 125) (rest := []) (fs := [.ref b2, .ref b3, .ref b4]) (ci := 0) (fun Q2 hQ2 => ck_slipUnits s0 D cB cI cJ cD n x0 x1 a0 v1 hv1 ⟨b2, b3, b4, hc5, hc6, hc7, hc8⟩ hQ2) oX0_slipUnits (Or.inl hc5) rfl (zT_mem 1122 (by decide +kernel) rfl) (zT_mem 1123 (by decide +kernel) rfl) (zT_mem 1124 (by decide +kernel) rfl) rfl rfl (Nat.le_of_ble_eq_true rfl) ⟨by decide, by decide⟩ (by decide +kernel) ?_
  refine zV_eq (st2 := [.long v1]) rfl rfl rfl rfl ?_
  refine zV_blk (pc' := 6) (lo' := [(0, .ref a0), (1, .int x1)]) (st' := [.ref a0, .long v1]) [.aload_n 0] (by decide +kernel) rfl ?_
  refine zV_get (ci := 0) (idx := 19) (k := 2) (N := 3) (fs := [.ref b2, .ref b3, .ref b4]) (v := .ref b4) (Or.inl hc5) rfl z_in0 (by decide) (zT_mem 567 (by decide +kernel) rfl) rfl (by decide +kernel) ?_
  obtain ⟨v9, hv9, h⟩ := zbind h
  refine zV_roV (idx := 128) (rest := [.long v1]) (fs := [.int x0.2.2.1, .int x0.2.2.2.1, .int x0.2.2.2.2.1, .int x0.2.2.2.2.2.1, .int x0.2.2.2.2.2.2]) (ci := 10) (fun Q2 hQ2 => ck_beginUnits s0 D cB cI cJ cD x0.2.2 b4 v9 hv9 hc8 hQ2) oX10_beginUnits (Or.inl hc8) rfl (zT_mem 1134 (by decide +kernel) rfl) (zT_mem 1135 (by decide +kernel) rfl) (zT_mem 1136 (by decide +kernel) rfl) rfl rfl (Nat.le_of_ble_eq_true rfl) ⟨by decide, by decide⟩ (by decide +kernel) ?_
  refine zV_eq (st2 := [.long v9, .long v1]) rfl rfl rfl rfl ?_
  refine zV_blk (pc' := 13) (lo' := [(0, .ref a0), (1, .int x1)]) (st' := [.long (v1 - v9)]) [.lsub] (by decide +kernel) rfl ?_
  obtain rfl := Option.some.inj h
  exact zV_lret rfl (by decide +kernel) (hQ _ rfl)

def k_driftStep (x0 : vDes) (x1 : Int32) : Option (Int64) := (k_yearDays x0.1 x1).bind (fun v8 => (k_unitsOfDay x0.2.2).bind (fun v12 => (k_unitsOfYear x0.2.2).bind (fun v13 => some (((v8 : Int32).toInt64 * v12) - v13))))
theorem oX0_driftStep : zO yX0_driftStep cX0_driftStep 2 (some .long) 1 := ⟨zT_mem 1152 (by decide +kernel) rfl, zT_mem 105 (by decide +kernel) rfl, by decide +kernel, by decide +kernel, by decide +kernel⟩
set_option maxHeartbeats 4000000 in
set_option maxRecDepth 100000 in
theorem ck_driftStep (s0 : State) (D : va_G) (cB cI cJ cD : ClassId) (x0 : vDes) (x1 : Int32) (a0 : Nat) (x : Int64) (h : k_driftStep x0 x1 = some x) {hi hm : zHp} {nx : Nat} {Q : Option Value → zHp → zHp → Nat → Prop} (ho0 : iDes cI hi a0 x0) (hQ0 : Q (some (.long x)) hi hm nx) : zM s0 D (zty cB cI cJ cD) yX0_driftStep cX0_driftStep 2 (some .long) 1 21 0 0 [.ref a0, .int x1] hi hm nx Q := by
  have hQ : ∀ r : Int64, x = r → Q (some (.long r)) hi hm nx := fun r hr => by subst hr; exact hQ0
  clear hQ0
  refine zM_of (by decide +kernel) (Nat.le_of_ble_eq_true rfl) ?_
  unfold k_driftStep at h
  refine zV_eq (lo2 := [(0, .ref a0), (1, .int x1)]) rfl rfl rfl rfl ?_
  refine zV_blk (pc' := 1) (lo' := [(0, .ref a0), (1, .int x1)]) (st' := [.ref a0]) [.aload_n 0] (by decide +kernel) rfl ?_
  obtain ⟨b1, b2, b3, hc4, hc5, hc6, hc7⟩ := ho0
  refine zV_get (ci := 0) (idx := 9) (k := 0) (N := 3) (fs := [.ref b1, .ref b2, .ref b3]) (v := .ref b1) (Or.inl hc4) rfl z_in0 (by decide) (zT_mem 563 (by decide +kernel) rfl) rfl (by decide +kernel) ?_
  refine zV_blk (pc' := 5) (lo' := [(0, .ref a0), (1, .int x1)]) (st' := [.int x1, .ref b1]) [.iload_n 1] (by decide +kernel) rfl ?_
  obtain ⟨v8, hv8, h⟩ := zbind h
  obtain ⟨b9, hc10, hb11⟩ := hc5
  refine zV_roV (idx := 74) (rest := []) (fs := [.int x0.1.1, .int x0.1.2.1, .ref b9, .int x0.1.2.2.2.1, .int x0.1.2.2.2.2.1, .int x0.1.2.2.2.2.2]) (ci := 3) (fun Q2 hQ2 => ck_yearDays s0 D cB cI cJ cD x0.1 x1 b1 v8 hv8 ⟨b9, hc10, hb11⟩ hQ2) oX3_yearDays (Or.inl hc10) rfl (zT_mem 1046 (by decide +kernel) rfl) (zT_mem 1047 (by decide +kernel) rfl) (zT_mem 1048 (by decide +kernel) rfl) rfl rfl (Nat.le_of_ble_eq_true rfl) ⟨by decide, by decide⟩ (by decide +kernel) ?_
  refine zV_eq (st2 := [.int v8]) rfl rfl rfl rfl ?_
  refine zV_blk (pc' := 10) (lo' := [(0, .ref a0), (1, .int x1)]) (st' := [.ref a0, .long (v8 : Int32).toInt64]) [.i2l, .aload_n 0] (by decide +kernel) rfl ?_
  refine zV_get (ci := 0) (idx := 19) (k := 2) (N := 3) (fs := [.ref b1, .ref b2, .ref b3]) (v := .ref b3) (Or.inl hc4) rfl z_in0 (by decide) (zT_mem 567 (by decide +kernel) rfl) rfl (by decide +kernel) ?_
  obtain ⟨v12, hv12, h⟩ := zbind h
  refine zV_roV (idx := 118) (rest := [.long (v8 : Int32).toInt64]) (fs := [.int x0.2.2.1, .int x0.2.2.2.1, .int x0.2.2.2.2.1, .int x0.2.2.2.2.2.1, .int x0.2.2.2.2.2.2]) (ci := 10) (fun Q2 hQ2 => ck_unitsOfDay s0 D cB cI cJ cD x0.2.2 b3 v12 hv12 hc7 hQ2) oX10_unitsOfDay (Or.inl hc7) rfl (zT_mem 1126 (by decide +kernel) rfl) (zT_mem 1127 (by decide +kernel) rfl) (zT_mem 1128 (by decide +kernel) rfl) rfl rfl (Nat.le_of_ble_eq_true rfl) ⟨by decide, by decide⟩ (by decide +kernel) ?_
  refine zV_eq (st2 := [.long v12, .long (v8 : Int32).toInt64]) rfl rfl rfl rfl ?_
  refine zV_blk (pc' := 18) (lo' := [(0, .ref a0), (1, .int x1)]) (st' := [.ref a0, .long ((v8 : Int32).toInt64 * v12)]) [.lmul, .aload_n 0] (by decide +kernel) rfl ?_
  refine zV_get (ci := 0) (idx := 19) (k := 2) (N := 3) (fs := [.ref b1, .ref b2, .ref b3]) (v := .ref b3) (Or.inl hc4) rfl z_in0 (by decide) (zT_mem 567 (by decide +kernel) rfl) rfl (by decide +kernel) ?_
  obtain ⟨v13, hv13, h⟩ := zbind h
  refine zV_roV (idx := 122) (rest := [.long ((v8 : Int32).toInt64 * v12)]) (fs := [.int x0.2.2.1, .int x0.2.2.2.1, .int x0.2.2.2.2.1, .int x0.2.2.2.2.2.1, .int x0.2.2.2.2.2.2]) (ci := 10) (fun Q2 hQ2 => ck_unitsOfYear s0 D cB cI cJ cD x0.2.2 b3 v13 hv13 hc7 hQ2) oX10_unitsOfYear (Or.inl hc7) rfl (zT_mem 1130 (by decide +kernel) rfl) (zT_mem 1131 (by decide +kernel) rfl) (zT_mem 1132 (by decide +kernel) rfl) rfl rfl (Nat.le_of_ble_eq_true rfl) ⟨by decide, by decide⟩ (by decide +kernel) ?_
  refine zV_eq (st2 := [.long v13, .long ((v8 : Int32).toInt64 * v12)]) rfl rfl rfl rfl ?_
  refine zV_blk (pc' := 25) (lo' := [(0, .ref a0), (1, .int x1)]) (st' := [.long (((v8 : Int32).toInt64 * v12) - v13)]) [.lsub] (by decide +kernel) rfl ?_
  obtain rfl := Option.some.inj h
  exact zV_lret rfl (by decide +kernel) (hQ _ rfl)

def k_extremeYear_89 (n : Nat) (x0 : vDes) (x2 : Int32) (x3 : Int32) (x4 : Int64) (x6 : Int64) (x10 : Int64) (x12 : Int32) (x13 : Int32) (t0 : Int64) (t1 : Int64) : Option ((Int64 × Int64 × Int32 × Int32) ⊕ (Int32)) := some (.inl ((t0 + t1), x10, x12, (x13 + 1)))
set_option maxHeartbeats 4000000 in
set_option maxRecDepth 100000 in
theorem ck_extremeYear_89 (s0 : State) (D : va_G) (cB cI cJ cD : ClassId) (n : Nat) (x0 : vDes) (x2 : Int32) (x3 : Int32) (x4 : Int64) (x6 : Int64) (x10 : Int64) (x12 : Int32) (x13 : Int32) (t0 : Int64) (t1 : Int64) (a0 : Nat) {x : (Int64 × Int64 × Int32 × Int32) ⊕ (Int32)} {hi hm : zHp} {nx : Nat} {Q : Option Value → zHp → zHp → Nat → Prop} (ho0 : iDes cI hi a0 x0) (h : k_extremeYear_89 n x0 x2 x3 x4 x6 x10 x12 x13 t0 t1 = some x) (hL31 : ∀ s : Int64 × Int64 × Int32 × Int32, x = (.inl s) → zV s0 D (zty cB cI cJ cD) yX0_extremeYear cX0_extremeYear 14 (some .int) 5 109 0 0 31 [(0, .ref a0), (2, .int x2), (3, .int x3), (4, .long x4), (6, .long x6), (8, .long s.1), (10, .long s.2.1), (12, .int s.2.2.1), (13, .int s.2.2.2)] [] hi hm nx Q) (hQ : ∀ r : Int32, x = (.inr r) → Q (some (.int r)) hi hm nx) : zV s0 D (zty cB cI cJ cD) yX0_extremeYear cX0_extremeYear 14 (some .int) 5 109 0 0 89 [(0, .ref a0), (2, .int x2), (3, .int x3), (4, .long x4), (6, .long x6), (10, .long x10), (12, .int x12), (13, .int x13)] [.long t1, .long t0] hi hm nx Q := by
  unfold k_extremeYear_89 at h
  refine zV_blk (pc' := 95) (lo' := [(13, .int (x13 + 1)), (8, .long (t0 + t1)), (0, .ref a0), (2, .int x2), (3, .int x3), (4, .long x4), (6, .long x6), (10, .long x10), (12, .int x12)]) (st' := []) [.ladd, .lstore 8, .iinc 13 1] (by decide +kernel) rfl ?_
  refine zV_goto (tgt := 31) (off := -64) (by decide +kernel) (by decide) ?_
  obtain rfl := Option.some.inj h
  refine zV_pick (lo2 := [(0, .ref a0), (2, .int x2), (3, .int x3), (4, .long x4), (6, .long x6), (8, .long (t0 + t1)), (10, .long x10), (12, .int x12), (13, .int (x13 + 1))]) [2, 3, 4, 5, 6, 1, 7, 8, 0] rfl ?_
  exact hL31 _ rfl
def k_extremeYear_68 (n : Nat) (x0 : vDes) (x2 : Int32) (x3 : Int32) (x4 : Int64) (x6 : Int64) (x8 : Int64) (x10 : Int64) (x12 : Int32) (x13 : Int32) : Option ((Int64 × Int64 × Int32 × Int32) ⊕ (Int32)) := (d_isLeap n x0.2.1 x13).bind (fun v8 => (if v8 = true then (k_extremeYear_89 n x0 x2 x3 x4 x6 x10 x12 x13 x8 x6) else (k_extremeYear_89 n x0 x2 x3 x4 x6 x10 x12 x13 x8 x4)))
set_option maxHeartbeats 4000000 in
set_option maxRecDepth 100000 in
theorem ck_extremeYear_68 (s0 : State) (D : va_G) (cB cI cJ cD : ClassId) (n : Nat) (x0 : vDes) (x2 : Int32) (x3 : Int32) (x4 : Int64) (x6 : Int64) (x8 : Int64) (x10 : Int64) (x12 : Int32) (x13 : Int32) (a0 : Nat) {x : (Int64 × Int64 × Int32 × Int32) ⊕ (Int32)} {hi hm : zHp} {nx : Nat} {Q : Option Value → zHp → zHp → Nat → Prop} (ho0 : iDes cI hi a0 x0) (h : k_extremeYear_68 n x0 x2 x3 x4 x6 x8 x10 x12 x13 = some x) (hL31 : ∀ s : Int64 × Int64 × Int32 × Int32, x = (.inl s) → zV s0 D (zty cB cI cJ cD) yX0_extremeYear cX0_extremeYear 14 (some .int) 5 109 0 0 31 [(0, .ref a0), (2, .int x2), (3, .int x3), (4, .long x4), (6, .long x6), (8, .long s.1), (10, .long s.2.1), (12, .int s.2.2.1), (13, .int s.2.2.2)] [] hi hm nx Q) (hQ : ∀ r : Int32, x = (.inr r) → Q (some (.int r)) hi hm nx) : zV s0 D (zty cB cI cJ cD) yX0_extremeYear cX0_extremeYear 14 (some .int) 5 109 0 0 68 [(0, .ref a0), (2, .int x2), (3, .int x3), (4, .long x4), (6, .long x6), (8, .long x8), (10, .long x10), (12, .int x12), (13, .int x13)] [] hi hm nx Q := by
  unfold k_extremeYear_68 at h
  refine zV_blk (pc' := 71) (lo' := [(0, .ref a0), (2, .int x2), (3, .int x3), (4, .long x4), (6, .long x6), (8, .long x8), (10, .long x10), (12, .int x12), (13, .int x13)]) (st' := [.ref a0, .long x8]) [.lload 8, .aload_n 0] (by decide +kernel) rfl ?_
  obtain ⟨b1, b2, b3, hc4, hc5, hc6, hc7⟩ := ho0
  refine zV_get (ci := 0) (idx := 15) (k := 1) (N := 3) (fs := [.ref b1, .ref b2, .ref b3]) (v := .ref b2) (Or.inl hc4) rfl z_in0 (by decide) (zT_mem 565 (by decide +kernel) rfl) rfl (by decide +kernel) ?_
  refine zV_blk (pc' := 76) (lo' := [(0, .ref a0), (2, .int x2), (3, .int x3), (4, .long x4), (6, .long x6), (8, .long x8), (10, .long x10), (12, .int x12), (13, .int x13)]) (st' := [.int x13, .ref b2, .long x8]) [.iload 13] (by decide +kernel) rfl ?_
  obtain ⟨v8, hv8, h⟩ := zbind h
  refine dc_isLeap s0 D cB cI cJ cD (idx := 70) n x0.2.1 x13 b2 v8 hv8 hc6 (zT_mem 1045 (by decide +kernel) rfl) (rest := [.long x8]) rfl (Nat.le_of_ble_eq_true rfl) ⟨by decide, by decide⟩ (by decide +kernel) ?_
  refine zV_eq (st2 := [.int (zb v8), .long x8]) rfl rfl rfl rfl ?_
  refine zV_bif_eq (tgt := 87) (off := 8) (by decide +kernel) (by decide) (fun q => ?_) (fun q => ?_)
  · replace h := zif_neg q h
    clear q
    refine zV_blk (pc' := 89) (lo' := [(0, .ref a0), (2, .int x2), (3, .int x3), (4, .long x4), (6, .long x6), (8, .long x8), (10, .long x10), (12, .int x12), (13, .int x13)]) (st' := [.long x4, .long x8]) [.lload 4] (by decide +kernel) rfl ?_
    refine zV_pick (lo2 := [(0, .ref a0), (2, .int x2), (3, .int x3), (4, .long x4), (6, .long x6), (10, .long x10), (12, .int x12), (13, .int x13)]) [0, 1, 2, 3, 4, 6, 7, 8] rfl ?_
    exact ck_extremeYear_89 s0 D cB cI cJ cD n x0 x2 x3 x4 x6 x10 x12 x13 x8 x4 a0 ⟨b1, b2, b3, hc4, hc5, hc6, hc7⟩ h hL31 hQ
  · replace h := zif_pos q h
    clear q
    refine zV_blk (pc' := 84) (lo' := [(0, .ref a0), (2, .int x2), (3, .int x3), (4, .long x4), (6, .long x6), (8, .long x8), (10, .long x10), (12, .int x12), (13, .int x13)]) (st' := [.long x6, .long x8]) [.lload 6] (by decide +kernel) rfl ?_
    refine zV_goto (tgt := 89) (off := 5) (by decide +kernel) (by decide) ?_
    refine zV_pick (lo2 := [(0, .ref a0), (2, .int x2), (3, .int x3), (4, .long x4), (6, .long x6), (10, .long x10), (12, .int x12), (13, .int x13)]) [0, 1, 2, 3, 4, 6, 7, 8] rfl ?_
    exact ck_extremeYear_89 s0 D cB cI cJ cD n x0 x2 x3 x4 x6 x10 x12 x13 x8 x6 a0 ⟨b1, b2, b3, hc4, hc5, hc6, hc7⟩ h hL31 hQ
def k_extremeYear_60 (n : Nat) (x0 : vDes) (x2 : Int32) (x3 : Int32) (x4 : Int64) (x6 : Int64) (x8 : Int64) (x13 : Int32) : Option ((Int64 × Int64 × Int32 × Int32) ⊕ (Int32)) := (k_extremeYear_68 n x0 x2 x3 x4 x6 x8 x8 x13 x13 )
set_option maxHeartbeats 4000000 in
set_option maxRecDepth 100000 in
theorem ck_extremeYear_60 (s0 : State) (D : va_G) (cB cI cJ cD : ClassId) (n : Nat) (x0 : vDes) (x2 : Int32) (x3 : Int32) (x4 : Int64) (x6 : Int64) (x8 : Int64) (x13 : Int32) (a0 : Nat) {x : (Int64 × Int64 × Int32 × Int32) ⊕ (Int32)} {hi hm : zHp} {nx : Nat} {Q : Option Value → zHp → zHp → Nat → Prop} (ho0 : iDes cI hi a0 x0) (h : k_extremeYear_60 n x0 x2 x3 x4 x6 x8 x13 = some x) (hL31 : ∀ s : Int64 × Int64 × Int32 × Int32, x = (.inl s) → zV s0 D (zty cB cI cJ cD) yX0_extremeYear cX0_extremeYear 14 (some .int) 5 109 0 0 31 [(0, .ref a0), (2, .int x2), (3, .int x3), (4, .long x4), (6, .long x6), (8, .long s.1), (10, .long s.2.1), (12, .int s.2.2.1), (13, .int s.2.2.2)] [] hi hm nx Q) (hQ : ∀ r : Int32, x = (.inr r) → Q (some (.int r)) hi hm nx) : zV s0 D (zty cB cI cJ cD) yX0_extremeYear cX0_extremeYear 14 (some .int) 5 109 0 0 60 [(0, .ref a0), (2, .int x2), (3, .int x3), (4, .long x4), (6, .long x6), (8, .long x8), (13, .int x13)] [] hi hm nx Q := by
  unfold k_extremeYear_60 at h
  refine zV_blk (pc' := 68) (lo' := [(12, .int x13), (10, .long x8), (0, .ref a0), (2, .int x2), (3, .int x3), (4, .long x4), (6, .long x6), (8, .long x8), (13, .int x13)]) (st' := []) [.lload 8, .lstore 10, .iload 13, .istore 12] (by decide +kernel) rfl ?_
  refine zV_pick (lo2 := [(0, .ref a0), (2, .int x2), (3, .int x3), (4, .long x4), (6, .long x6), (8, .long x8), (10, .long x8), (12, .int x13), (13, .int x13)]) [2, 3, 4, 5, 6, 7, 1, 0, 8] rfl ?_
  exact ck_extremeYear_68 s0 D cB cI cJ cD n x0 x2 x3 x4 x6 x8 x8 x13 x13  a0 ho0 h hL31 hQ
def k_extremeYear_31 (n : Nat) (x0 : vDes) (x2 : Int32) (x3 : Int32) (x4 : Int64) (x6 : Int64) (s : Int64 × Int64 × Int32 × Int32) : Option ((Int64 × Int64 × Int32 × Int32) ⊕ (Int32)) := (if (x2 : Int32) < (s.2.2.2 : Int32) then some (.inr s.2.2.1) else (if (x3 : Int32) = (0 : Int32) then (if (s.2.1 : Int64) ≤ (s.1 : Int64) then (k_extremeYear_68 n x0 x2 x3 x4 x6 s.1 s.2.1 s.2.2.1 s.2.2.2 ) else (k_extremeYear_60 n x0 x2 x3 x4 x6 s.1 s.2.2.2 )) else (if (s.1 : Int64) ≤ (s.2.1 : Int64) then (k_extremeYear_68 n x0 x2 x3 x4 x6 s.1 s.2.1 s.2.2.1 s.2.2.2 ) else (k_extremeYear_60 n x0 x2 x3 x4 x6 s.1 s.2.2.2 ))))
set_option maxHeartbeats 4000000 in
set_option maxRecDepth 100000 in
theorem ck_extremeYear_31 (s0 : State) (D : va_G) (cB cI cJ cD : ClassId) (n : Nat) (x0 : vDes) (x2 : Int32) (x3 : Int32) (x4 : Int64) (x6 : Int64) (a0 : Nat) (s : Int64 × Int64 × Int32 × Int32) {x : (Int64 × Int64 × Int32 × Int32) ⊕ (Int32)} {hi hm : zHp} {nx : Nat} {Q : Option Value → zHp → zHp → Nat → Prop} (ho0 : iDes cI hi a0 x0) (h : k_extremeYear_31 n x0 x2 x3 x4 x6 s = some x) (hL31 : ∀ s : Int64 × Int64 × Int32 × Int32, x = (.inl s) → zV s0 D (zty cB cI cJ cD) yX0_extremeYear cX0_extremeYear 14 (some .int) 5 109 0 0 31 [(0, .ref a0), (2, .int x2), (3, .int x3), (4, .long x4), (6, .long x6), (8, .long s.1), (10, .long s.2.1), (12, .int s.2.2.1), (13, .int s.2.2.2)] [] hi hm nx Q) (hQ : ∀ r : Int32, x = (.inr r) → Q (some (.int r)) hi hm nx) : zV s0 D (zty cB cI cJ cD) yX0_extremeYear cX0_extremeYear 14 (some .int) 5 109 0 0 31 [(0, .ref a0), (2, .int x2), (3, .int x3), (4, .long x4), (6, .long x6), (8, .long s.1), (10, .long s.2.1), (12, .int s.2.2.1), (13, .int s.2.2.2)] [] hi hm nx Q := by
  unfold k_extremeYear_31 at h
  refine zV_blk (pc' := 34) (lo' := [(0, .ref a0), (2, .int x2), (3, .int x3), (4, .long x4), (6, .long x6), (8, .long s.1), (10, .long s.2.1), (12, .int s.2.2.1), (13, .int s.2.2.2)]) (st' := [.int x2, .int s.2.2.2]) [.iload 13, .iload_n 2] (by decide +kernel) rfl ?_
  refine zV_icmp_gt (tgt := 98) (off := 64) (by decide +kernel) (by decide) (fun q => ?_) (fun q => ?_)
  · replace h := zif_pos q h
    clear q
    refine zV_blk (pc' := 100) (lo' := [(0, .ref a0), (2, .int x2), (3, .int x3), (4, .long x4), (6, .long x6), (8, .long s.1), (10, .long s.2.1), (12, .int s.2.2.1), (13, .int s.2.2.2)]) (st' := [.int s.2.2.1]) [.iload 12] (by decide +kernel) rfl ?_
    obtain rfl := Option.some.inj h
    exact zV_iret rfl (by decide +kernel) (hQ _ rfl)
  · replace h := zif_neg q h
    clear q
    refine zV_blk (pc' := 38) (lo' := [(0, .ref a0), (2, .int x2), (3, .int x3), (4, .long x4), (6, .long x6), (8, .long s.1), (10, .long s.2.1), (12, .int s.2.2.1), (13, .int s.2.2.2)]) (st' := [.int x3]) [.iload_n 3] (by decide +kernel) rfl ?_
    refine zV_if_eq (tgt := 52) (off := 14) (by decide +kernel) (by decide) (fun q => ?_) (fun q => ?_)
    · replace h := zif_pos q h
      clear q
      refine zV_blk (pc' := 57) (lo' := [(0, .ref a0), (2, .int x2), (3, .int x3), (4, .long x4), (6, .long x6), (8, .long s.1), (10, .long s.2.1), (12, .int s.2.2.1), (13, .int s.2.2.2)]) (st' := [.int (lg_cmp s.1 s.2.1)]) [.lload 8, .lload 10, .lcmp] (by decide +kernel) rfl ?_
      refine zV_lcmp_ge (tgt := 68) (off := 11) (by decide +kernel) (by decide) (fun q => ?_) (fun q => ?_)
      · replace h := zif_pos q h
        clear q
        refine zV_pick (lo2 := [(0, .ref a0), (2, .int x2), (3, .int x3), (4, .long x4), (6, .long x6), (8, .long s.1), (10, .long s.2.1), (12, .int s.2.2.1), (13, .int s.2.2.2)]) [0, 1, 2, 3, 4, 5, 6, 7, 8] rfl ?_
        exact ck_extremeYear_68 s0 D cB cI cJ cD n x0 x2 x3 x4 x6 s.1 s.2.1 s.2.2.1 s.2.2.2  a0 ho0 h hL31 hQ
      · replace h := zif_neg q h
        clear q
        refine zV_pick (lo2 := [(0, .ref a0), (2, .int x2), (3, .int x3), (4, .long x4), (6, .long x6), (8, .long s.1), (13, .int s.2.2.2)]) [0, 1, 2, 3, 4, 5, 8] rfl ?_
        exact ck_extremeYear_60 s0 D cB cI cJ cD n x0 x2 x3 x4 x6 s.1 s.2.2.2  a0 ho0 h hL31 hQ
    · replace h := zif_neg q h
      clear q
      refine zV_blk (pc' := 46) (lo' := [(0, .ref a0), (2, .int x2), (3, .int x3), (4, .long x4), (6, .long x6), (8, .long s.1), (10, .long s.2.1), (12, .int s.2.2.1), (13, .int s.2.2.2)]) (st' := [.int (lg_cmp s.1 s.2.1)]) [.lload 8, .lload 10, .lcmp] (by decide +kernel) rfl ?_
      refine zV_lcmp_le (tgt := 68) (off := 22) (by decide +kernel) (by decide) (fun q => ?_) (fun q => ?_)
      · replace h := zif_pos q h
        clear q
        refine zV_pick (lo2 := [(0, .ref a0), (2, .int x2), (3, .int x3), (4, .long x4), (6, .long x6), (8, .long s.1), (10, .long s.2.1), (12, .int s.2.2.1), (13, .int s.2.2.2)]) [0, 1, 2, 3, 4, 5, 6, 7, 8] rfl ?_
        exact ck_extremeYear_68 s0 D cB cI cJ cD n x0 x2 x3 x4 x6 s.1 s.2.1 s.2.2.1 s.2.2.2  a0 ho0 h hL31 hQ
      · replace h := zif_neg q h
        clear q
        refine zV_goto (tgt := 60) (off := 11) (by decide +kernel) (by decide) ?_
        refine zV_pick (lo2 := [(0, .ref a0), (2, .int x2), (3, .int x3), (4, .long x4), (6, .long x6), (8, .long s.1), (13, .int s.2.2.2)]) [0, 1, 2, 3, 4, 5, 8] rfl ?_
        exact ck_extremeYear_60 s0 D cB cI cJ cD n x0 x2 x3 x4 x6 s.1 s.2.2.2  a0 ho0 h hL31 hQ
theorem ck_extremeYear_31L (s0 : State) (D : va_G) (cB cI cJ cD : ClassId) (n : Nat) (x0 : vDes) (x2 : Int32) (x3 : Int32) (x4 : Int64) (x6 : Int64) (a0 : Nat) : ∀ (k : Nat) (s : Int64 × Int64 × Int32 × Int32) {hi hm : zHp} {nx : Nat} {Q : Option Value → zHp → zHp → Nat → Prop} (ho0 : iDes cI hi a0 x0) {x : Int32} (_ : zloop (k_extremeYear_31 n x0 x2 x3 x4 x6) k s = some x) (hQ : ∀ r : Int32, x = r → Q (some (.int r)) hi hm nx), zV s0 D (zty cB cI cJ cD) yX0_extremeYear cX0_extremeYear 14 (some .int) 5 109 0 0 31 [(0, .ref a0), (2, .int x2), (3, .int x3), (4, .long x4), (6, .long x6), (8, .long s.1), (10, .long s.2.1), (12, .int s.2.2.1), (13, .int s.2.2.2)] [] hi hm nx Q
  | 0, s, _, _, _, _, _, _, h, _ => by cases h
  | k + 1, s, hi, hm, nx, Q, ho0, x, h, hQ => by
    obtain ⟨z, hz, h1, h2⟩ := zloop_succ h
    exact ck_extremeYear_31 s0 D cB cI cJ cD n x0 x2 x3 x4 x6 a0 s ho0 hz (fun s' hs => ck_extremeYear_31L s0 D cB cI cJ cD n x0 x2 x3 x4 x6 a0 k s' ho0 (h1 s' hs) hQ) (fun r hr => hQ r (h2 _ hr).symm)
def k_extremeYear (n : Nat) (x0 : vDes) (x1 : Int32) (x2 : Int32) (x3 : Int32) : Option (Int32) := (k_driftStep x0 0).bind (fun v1 => (k_driftStep x0 1).bind (fun v9 => (k_driftUnits n x0 x1).bind (fun v10 => (zloop (k_extremeYear_31 n x0 x2 x3 v1 v9) n (v10, v10, x1, x1)))))
theorem oX0_extremeYear : zO yX0_extremeYear cX0_extremeYear 14 (some .int) 3 := ⟨zT_mem 1148 (by decide +kernel) rfl, zT_mem 105 (by decide +kernel) rfl, by decide +kernel, by decide +kernel, by decide +kernel⟩
set_option maxHeartbeats 4000000 in
set_option maxRecDepth 100000 in
theorem ck_extremeYear (s0 : State) (D : va_G) (cB cI cJ cD : ClassId) (n : Nat) (x0 : vDes) (x1 : Int32) (x2 : Int32) (x3 : Int32) (a0 : Nat) (x : Int32) (h : k_extremeYear n x0 x1 x2 x3 = some x) {hi hm : zHp} {nx : Nat} {Q : Option Value → zHp → zHp → Nat → Prop} (ho0 : iDes cI hi a0 x0) (hQ0 : Q (some (.int x)) hi hm nx) : zM s0 D (zty cB cI cJ cD) yX0_extremeYear cX0_extremeYear 14 (some .int) 5 109 0 0 [.ref a0, .int x1, .int x2, .int x3] hi hm nx Q := by
  have hQ : ∀ r : Int32, x = r → Q (some (.int r)) hi hm nx := fun r hr => by subst hr; exact hQ0
  clear hQ0
  refine zM_of (by decide +kernel) (Nat.le_of_ble_eq_true rfl) ?_
  unfold k_extremeYear at h
  refine zV_eq (lo2 := [(0, .ref a0), (1, .int x1), (2, .int x2), (3, .int x3)]) rfl rfl rfl rfl ?_
  refine zV_blk (pc' := 2) (lo' := [(0, .ref a0), (1, .int x1), (2, .int x2), (3, .int x3)]) (st' := [.int 0, .ref a0]) [.aload_n 0, .iconst 0] (by decide +kernel) rfl ?_
  obtain ⟨v1, hv1, h⟩ := zbind h
  obtain ⟨b2, b3, b4, hc5, hc6, hc7, hc8⟩ := ho0
  refine zV_roV (idx := 134) (rest := []) (fs := [.ref b2, .ref b3, .ref b4]) (ci := 0) (fun Q2 hQ2 => ck_driftStep s0 D cB cI cJ cD x0 0 a0 v1 hv1 ⟨b2, b3, b4, hc5, hc6, hc7, hc8⟩ hQ2) oX0_driftStep (Or.inl hc5) rfl (zT_mem 1149 (by decide +kernel) rfl) (zT_mem 1150 (by decide +kernel) rfl) (zT_mem 1151 (by decide +kernel) rfl) rfl rfl (Nat.le_of_ble_eq_true rfl) ⟨by decide, by decide⟩ (by decide +kernel) ?_
  refine zV_eq (st2 := [.long v1]) rfl rfl rfl rfl ?_
  refine zV_blk (pc' := 9) (lo' := [(4, .long v1), (0, .ref a0), (1, .int x1), (2, .int x2), (3, .int x3)]) (st' := [.int 1, .ref a0]) [.lstore 4, .aload_n 0, .iconst 1] (by decide +kernel) rfl ?_
  obtain ⟨v9, hv9, h⟩ := zbind h
  refine zV_roV (idx := 134) (rest := []) (fs := [.ref b2, .ref b3, .ref b4]) (ci := 0) (fun Q2 hQ2 => ck_driftStep s0 D cB cI cJ cD x0 1 a0 v9 hv9 ⟨b2, b3, b4, hc5, hc6, hc7, hc8⟩ hQ2) oX0_driftStep (Or.inl hc5) rfl (zT_mem 1149 (by decide +kernel) rfl) (zT_mem 1150 (by decide +kernel) rfl) (zT_mem 1151 (by decide +kernel) rfl) rfl rfl (Nat.le_of_ble_eq_true rfl) ⟨by decide, by decide⟩ (by decide +kernel) ?_
  refine zV_eq (st2 := [.long v9]) rfl rfl rfl rfl ?_
  refine zV_blk (pc' := 16) (lo' := [(6, .long v9), (4, .long v1), (0, .ref a0), (1, .int x1), (2, .int x2), (3, .int x3)]) (st' := [.int x1, .ref a0]) [.lstore 6, .aload_n 0, .iload_n 1] (by decide +kernel) rfl ?_
  obtain ⟨v10, hv10, h⟩ := zbind h
  refine zV_roV (idx := 131) (rest := []) (fs := [.ref b2, .ref b3, .ref b4]) (ci := 0) (fun Q2 hQ2 => ck_driftUnits s0 D cB cI cJ cD n x0 x1 a0 v10 hv10 ⟨b2, b3, b4, hc5, hc6, hc7, hc8⟩ hQ2) oX0_driftUnits (Or.inl hc5) rfl (zT_mem 1118 (by decide +kernel) rfl) (zT_mem 1119 (by decide +kernel) rfl) (zT_mem 1120 (by decide +kernel) rfl) rfl rfl (Nat.le_of_ble_eq_true rfl) ⟨by decide, by decide⟩ (by decide +kernel) ?_
  refine zV_eq (st2 := [.long v10]) rfl rfl rfl rfl ?_
  refine zV_blk (pc' := 31) (lo' := [(13, .int x1), (12, .int x1), (10, .long v10), (8, .long v10), (6, .long v9), (4, .long v1), (0, .ref a0), (1, .int x1), (2, .int x2), (3, .int x3)]) (st' := []) [.lstore 8, .lload 8, .lstore 10, .iload_n 1, .istore 12, .iload_n 1, .istore 13] (by decide +kernel) rfl ?_
  refine zV_pick (lo2 := [(0, .ref a0), (2, .int x2), (3, .int x3), (4, .long v1), (6, .long v9), (8, .long v10), (10, .long v10), (12, .int x1), (13, .int x1)]) [6, 8, 9, 5, 4, 3, 2, 1, 0] rfl ?_
  exact ck_extremeYear_31L s0 D cB cI cJ cD n x0 x2 x3 v1 v9 a0 n (v10, v10, x1, x1) ⟨b2, b3, b4, hc5, hc6, hc7, hc8⟩ h hQ

def k_passingYear_73 (n : Nat) (x0 : vDes) (x2 : Int64) (x4 : Int64) (x6 : Int64) (x10 : Int32) (t0 : Int64) (t1 : Int64) : Option ((Int64 × Int32) ⊕ (Int32)) := some (.inl ((t0 + t1), (x10 + 1)))
set_option maxHeartbeats 4000000 in
set_option maxRecDepth 100000 in
theorem ck_passingYear_73 (s0 : State) (D : va_G) (cB cI cJ cD : ClassId) (n : Nat) (x0 : vDes) (x2 : Int64) (x4 : Int64) (x6 : Int64) (x10 : Int32) (t0 : Int64) (t1 : Int64) (a0 : Nat) {x : (Int64 × Int32) ⊕ (Int32)} {hi hm : zHp} {nx : Nat} {Q : Option Value → zHp → zHp → Nat → Prop} (ho0 : iDes cI hi a0 x0) (h : k_passingYear_73 n x0 x2 x4 x6 x10 t0 t1 = some x) (hL31 : ∀ s : Int64 × Int32, x = (.inl s) → zV s0 D (zty cB cI cJ cD) yX0_passingYear cX0_passingYear 11 (some .int) 2 44 0 0 31 [(0, .ref a0), (2, .long x2), (4, .long x4), (6, .long x6), (8, .long s.1), (10, .int s.2)] [] hi hm nx Q) (hQ : ∀ r : Int32, x = (.inr r) → Q (some (.int r)) hi hm nx) : zV s0 D (zty cB cI cJ cD) yX0_passingYear cX0_passingYear 11 (some .int) 2 44 0 0 73 [(0, .ref a0), (2, .long x2), (4, .long x4), (6, .long x6), (10, .int x10)] [.long t1, .long t0] hi hm nx Q := by
  unfold k_passingYear_73 at h
  refine zV_blk (pc' := 79) (lo' := [(10, .int (x10 + 1)), (8, .long (t0 + t1)), (0, .ref a0), (2, .long x2), (4, .long x4), (6, .long x6)]) (st' := []) [.ladd, .lstore 8, .iinc 10 1] (by decide +kernel) rfl ?_
  refine zV_goto (tgt := 31) (off := -48) (by decide +kernel) (by decide) ?_
  obtain rfl := Option.some.inj h
  refine zV_pick (lo2 := [(0, .ref a0), (2, .long x2), (4, .long x4), (6, .long x6), (8, .long (t0 + t1)), (10, .int (x10 + 1))]) [2, 3, 4, 5, 1, 0] rfl ?_
  exact hL31 _ rfl
def k_passingYear_31 (n : Nat) (x0 : vDes) (x2 : Int64) (x4 : Int64) (x6 : Int64) (s : Int64 × Int32) : Option ((Int64 × Int32) ⊕ (Int32)) := (if (20000 : Int32) < (s.2 : Int32) then some (.inr (-1)) else (j_abs s.1).bind (fun v1 => (if (v1 : Int64) ≤ (x6 : Int64) then (d_isLeap n x0.2.1 s.2).bind (fun v9 => (if v9 = true then (k_passingYear_73 n x0 x2 x4 x6 s.2 s.1 x4) else (k_passingYear_73 n x0 x2 x4 x6 s.2 s.1 x2))) else some (.inr s.2))))
set_option maxHeartbeats 4000000 in
set_option maxRecDepth 100000 in
theorem ck_passingYear_31 (s0 : State) (D : va_G) (cB cI cJ cD : ClassId) (n : Nat) (x0 : vDes) (x2 : Int64) (x4 : Int64) (x6 : Int64) (a0 : Nat) (s : Int64 × Int32) {x : (Int64 × Int32) ⊕ (Int32)} {hi hm : zHp} {nx : Nat} {Q : Option Value → zHp → zHp → Nat → Prop} (ho0 : iDes cI hi a0 x0) (h : k_passingYear_31 n x0 x2 x4 x6 s = some x) (hL31 : ∀ s : Int64 × Int32, x = (.inl s) → zV s0 D (zty cB cI cJ cD) yX0_passingYear cX0_passingYear 11 (some .int) 2 44 0 0 31 [(0, .ref a0), (2, .long x2), (4, .long x4), (6, .long x6), (8, .long s.1), (10, .int s.2)] [] hi hm nx Q) (hQ : ∀ r : Int32, x = (.inr r) → Q (some (.int r)) hi hm nx) : zV s0 D (zty cB cI cJ cD) yX0_passingYear cX0_passingYear 11 (some .int) 2 44 0 0 31 [(0, .ref a0), (2, .long x2), (4, .long x4), (6, .long x6), (8, .long s.1), (10, .int s.2)] [] hi hm nx Q := by
  unfold k_passingYear_31 at h
  refine zV_blk (pc' := 36) (lo' := [(0, .ref a0), (2, .long x2), (4, .long x4), (6, .long x6), (8, .long s.1), (10, .int s.2)]) (st' := [.int 20000, .int s.2]) [.iload 10, .sipush 20000] (by decide +kernel) rfl ?_
  refine zV_icmp_gt (tgt := 82) (off := 46) (by decide +kernel) (by decide) (fun q => ?_) (fun q => ?_)
  · replace h := zif_pos q h
    clear q
    refine zV_blk (pc' := 83) (lo' := [(0, .ref a0), (2, .long x2), (4, .long x4), (6, .long x6), (8, .long s.1), (10, .int s.2)]) (st' := [.int (-1)]) [.iconst (-1)] (by decide +kernel) rfl ?_
    obtain rfl := Option.some.inj h
    exact zV_iret rfl (by decide +kernel) (hQ _ rfl)
  · replace h := zif_neg q h
    clear q
    refine zV_blk (pc' := 41) (lo' := [(0, .ref a0), (2, .long x2), (4, .long x4), (6, .long x6), (8, .long s.1), (10, .int s.2)]) (st' := [.long s.1]) [.lload 8] (by decide +kernel) rfl ?_
    obtain ⟨v1, hv1, h⟩ := zbind h
    refine zV_roS (idx := 138) (rest := []) (fun Q2 hQ2 => cj_abs s0 D cB cI cJ cD s.1  v1 hv1  hQ2) oJ9_abs_067f4 (zT_mem 1161 (by decide +kernel) rfl) (zT_mem 693 (by decide +kernel) rfl) rfl rfl (Nat.le_of_ble_eq_true rfl) ⟨by decide, by decide⟩ (by decide +kernel) ?_
    refine zV_eq (st2 := [.long v1]) rfl rfl rfl rfl ?_
    refine zV_blk (pc' := 47) (lo' := [(0, .ref a0), (2, .long x2), (4, .long x4), (6, .long x6), (8, .long s.1), (10, .int s.2)]) (st' := [.int (lg_cmp v1 x6)]) [.lload 6, .lcmp] (by decide +kernel) rfl ?_
    refine zV_lcmp_le (tgt := 53) (off := 6) (by decide +kernel) (by decide) (fun q => ?_) (fun q => ?_)
    · replace h := zif_pos q h
      clear q
      refine zV_blk (pc' := 56) (lo' := [(0, .ref a0), (2, .long x2), (4, .long x4), (6, .long x6), (8, .long s.1), (10, .int s.2)]) (st' := [.ref a0, .long s.1]) [.lload 8, .aload_n 0] (by decide +kernel) rfl ?_
      obtain ⟨b2, b3, b4, hc5, hc6, hc7, hc8⟩ := ho0
      refine zV_get (ci := 0) (idx := 15) (k := 1) (N := 3) (fs := [.ref b2, .ref b3, .ref b4]) (v := .ref b3) (Or.inl hc5) rfl z_in0 (by decide) (zT_mem 565 (by decide +kernel) rfl) rfl (by decide +kernel) ?_
      refine zV_blk (pc' := 61) (lo' := [(0, .ref a0), (2, .long x2), (4, .long x4), (6, .long x6), (8, .long s.1), (10, .int s.2)]) (st' := [.int s.2, .ref b3, .long s.1]) [.iload 10] (by decide +kernel) rfl ?_
      obtain ⟨v9, hv9, h⟩ := zbind h
      refine dc_isLeap s0 D cB cI cJ cD (idx := 70) n x0.2.1 s.2 b3 v9 hv9 hc7 (zT_mem 1045 (by decide +kernel) rfl) (rest := [.long s.1]) rfl (Nat.le_of_ble_eq_true rfl) ⟨by decide, by decide⟩ (by decide +kernel) ?_
      refine zV_eq (st2 := [.int (zb v9), .long s.1]) rfl rfl rfl rfl ?_
      refine zV_bif_eq (tgt := 72) (off := 8) (by decide +kernel) (by decide) (fun q => ?_) (fun q => ?_)
      · replace h := zif_neg q h
        clear q
        refine zV_blk (pc' := 73) (lo' := [(0, .ref a0), (2, .long x2), (4, .long x4), (6, .long x6), (8, .long s.1), (10, .int s.2)]) (st' := [.long x2, .long s.1]) [.lload_n 2] (by decide +kernel) rfl ?_
        refine zV_pick (lo2 := [(0, .ref a0), (2, .long x2), (4, .long x4), (6, .long x6), (10, .int s.2)]) [0, 1, 2, 3, 5] rfl ?_
        exact ck_passingYear_73 s0 D cB cI cJ cD n x0 x2 x4 x6 s.2 s.1 x2 a0 ⟨b2, b3, b4, hc5, hc6, hc7, hc8⟩ h hL31 hQ
      · replace h := zif_pos q h
        clear q
        refine zV_blk (pc' := 69) (lo' := [(0, .ref a0), (2, .long x2), (4, .long x4), (6, .long x6), (8, .long s.1), (10, .int s.2)]) (st' := [.long x4, .long s.1]) [.lload 4] (by decide +kernel) rfl ?_
        refine zV_goto (tgt := 73) (off := 4) (by decide +kernel) (by decide) ?_
        refine zV_pick (lo2 := [(0, .ref a0), (2, .long x2), (4, .long x4), (6, .long x6), (10, .int s.2)]) [0, 1, 2, 3, 5] rfl ?_
        exact ck_passingYear_73 s0 D cB cI cJ cD n x0 x2 x4 x6 s.2 s.1 x4 a0 ⟨b2, b3, b4, hc5, hc6, hc7, hc8⟩ h hL31 hQ
    · replace h := zif_neg q h
      clear q
      refine zV_blk (pc' := 52) (lo' := [(0, .ref a0), (2, .long x2), (4, .long x4), (6, .long x6), (8, .long s.1), (10, .int s.2)]) (st' := [.int s.2]) [.iload 10] (by decide +kernel) rfl ?_
      obtain rfl := Option.some.inj h
      exact zV_iret rfl (by decide +kernel) (hQ _ rfl)
theorem ck_passingYear_31L (s0 : State) (D : va_G) (cB cI cJ cD : ClassId) (n : Nat) (x0 : vDes) (x2 : Int64) (x4 : Int64) (x6 : Int64) (a0 : Nat) : ∀ (k : Nat) (s : Int64 × Int32) {hi hm : zHp} {nx : Nat} {Q : Option Value → zHp → zHp → Nat → Prop} (ho0 : iDes cI hi a0 x0) {x : Int32} (_ : zloop (k_passingYear_31 n x0 x2 x4 x6) k s = some x) (hQ : ∀ r : Int32, x = r → Q (some (.int r)) hi hm nx), zV s0 D (zty cB cI cJ cD) yX0_passingYear cX0_passingYear 11 (some .int) 2 44 0 0 31 [(0, .ref a0), (2, .long x2), (4, .long x4), (6, .long x6), (8, .long s.1), (10, .int s.2)] [] hi hm nx Q
  | 0, s, _, _, _, _, _, _, h, _ => by cases h
  | k + 1, s, hi, hm, nx, Q, ho0, x, h, hQ => by
    obtain ⟨z, hz, h1, h2⟩ := zloop_succ h
    exact ck_passingYear_31 s0 D cB cI cJ cD n x0 x2 x4 x6 a0 s ho0 hz (fun s' hs => ck_passingYear_31L s0 D cB cI cJ cD n x0 x2 x4 x6 a0 k s' ho0 (h1 s' hs) hQ) (fun r hr => hQ r (h2 _ hr).symm)
def k_passingYear (n : Nat) (x0 : vDes) (x1 : Int32) : Option (Int32) := (k_driftStep x0 0).bind (fun v1 => (k_driftStep x0 1).bind (fun v9 => (k_unitsOfDay x0.2.2).bind (fun v10 => (zloop (k_passingYear_31 n x0 v1 v9 ((x1 : Int32).toInt64 * v10)) n (0, 0)))))
theorem oX0_passingYear : zO yX0_passingYear cX0_passingYear 11 (some .int) 1 := ⟨zT_mem 1160 (by decide +kernel) rfl, zT_mem 105 (by decide +kernel) rfl, by decide +kernel, by decide +kernel, by decide +kernel⟩
set_option maxHeartbeats 4000000 in
set_option maxRecDepth 100000 in
theorem ck_passingYear (s0 : State) (D : va_G) (cB cI cJ cD : ClassId) (n : Nat) (x0 : vDes) (x1 : Int32) (a0 : Nat) (x : Int32) (h : k_passingYear n x0 x1 = some x) {hi hm : zHp} {nx : Nat} {Q : Option Value → zHp → zHp → Nat → Prop} (ho0 : iDes cI hi a0 x0) (hQ0 : Q (some (.int x)) hi hm nx) : zM s0 D (zty cB cI cJ cD) yX0_passingYear cX0_passingYear 11 (some .int) 2 44 0 0 [.ref a0, .int x1] hi hm nx Q := by
  have hQ : ∀ r : Int32, x = r → Q (some (.int r)) hi hm nx := fun r hr => by subst hr; exact hQ0
  clear hQ0
  refine zM_of (by decide +kernel) (Nat.le_of_ble_eq_true rfl) ?_
  unfold k_passingYear at h
  refine zV_eq (lo2 := [(0, .ref a0), (1, .int x1)]) rfl rfl rfl rfl ?_
  refine zV_blk (pc' := 2) (lo' := [(0, .ref a0), (1, .int x1)]) (st' := [.int 0, .ref a0]) [.aload_n 0, .iconst 0] (by decide +kernel) rfl ?_
  obtain ⟨v1, hv1, h⟩ := zbind h
  obtain ⟨b2, b3, b4, hc5, hc6, hc7, hc8⟩ := ho0
  refine zV_roV (idx := 134) (rest := []) (fs := [.ref b2, .ref b3, .ref b4]) (ci := 0) (fun Q2 hQ2 => ck_driftStep s0 D cB cI cJ cD x0 0 a0 v1 hv1 ⟨b2, b3, b4, hc5, hc6, hc7, hc8⟩ hQ2) oX0_driftStep (Or.inl hc5) rfl (zT_mem 1149 (by decide +kernel) rfl) (zT_mem 1150 (by decide +kernel) rfl) (zT_mem 1151 (by decide +kernel) rfl) rfl rfl (Nat.le_of_ble_eq_true rfl) ⟨by decide, by decide⟩ (by decide +kernel) ?_
  refine zV_eq (st2 := [.long v1]) rfl rfl rfl rfl ?_
  refine zV_blk (pc' := 8) (lo' := [(2, .long v1), (0, .ref a0), (1, .int x1)]) (st' := [.int 1, .ref a0]) [.lstore_n 2, .aload_n 0, .iconst 1] (by decide +kernel) rfl ?_
  obtain ⟨v9, hv9, h⟩ := zbind h
  refine zV_roV (idx := 134) (rest := []) (fs := [.ref b2, .ref b3, .ref b4]) (ci := 0) (fun Q2 hQ2 => ck_driftStep s0 D cB cI cJ cD x0 1 a0 v9 hv9 ⟨b2, b3, b4, hc5, hc6, hc7, hc8⟩ hQ2) oX0_driftStep (Or.inl hc5) rfl (zT_mem 1149 (by decide +kernel) rfl) (zT_mem 1150 (by decide +kernel) rfl) (zT_mem 1151 (by decide +kernel) rfl) rfl rfl (Nat.le_of_ble_eq_true rfl) ⟨by decide, by decide⟩ (by decide +kernel) ?_
  refine zV_eq (st2 := [.long v9]) rfl rfl rfl rfl ?_
  refine zV_blk (pc' := 16) (lo' := [(4, .long v9), (2, .long v1), (0, .ref a0), (1, .int x1)]) (st' := [.ref a0, .long (x1 : Int32).toInt64]) [.lstore 4, .iload_n 1, .i2l, .aload_n 0] (by decide +kernel) rfl ?_
  refine zV_get (ci := 0) (idx := 19) (k := 2) (N := 3) (fs := [.ref b2, .ref b3, .ref b4]) (v := .ref b4) (Or.inl hc5) rfl z_in0 (by decide) (zT_mem 567 (by decide +kernel) rfl) rfl (by decide +kernel) ?_
  obtain ⟨v10, hv10, h⟩ := zbind h
  refine zV_roV (idx := 118) (rest := [.long (x1 : Int32).toInt64]) (fs := [.int x0.2.2.1, .int x0.2.2.2.1, .int x0.2.2.2.2.1, .int x0.2.2.2.2.2.1, .int x0.2.2.2.2.2.2]) (ci := 10) (fun Q2 hQ2 => ck_unitsOfDay s0 D cB cI cJ cD x0.2.2 b4 v10 hv10 hc8 hQ2) oX10_unitsOfDay (Or.inl hc8) rfl (zT_mem 1126 (by decide +kernel) rfl) (zT_mem 1127 (by decide +kernel) rfl) (zT_mem 1128 (by decide +kernel) rfl) rfl rfl (Nat.le_of_ble_eq_true rfl) ⟨by decide, by decide⟩ (by decide +kernel) ?_
  refine zV_eq (st2 := [.long v10, .long (x1 : Int32).toInt64]) rfl rfl rfl rfl ?_
  refine zV_blk (pc' := 31) (lo' := [(10, .int 0), (8, .long 0), (6, .long ((x1 : Int32).toInt64 * v10)), (4, .long v9), (2, .long v1), (0, .ref a0), (1, .int x1)]) (st' := []) [.lmul, .lstore 6, .lconst 0, .lstore 8, .iconst 0, .istore 10] (by decide +kernel) rfl ?_
  refine zV_pick (lo2 := [(0, .ref a0), (2, .long v1), (4, .long v9), (6, .long ((x1 : Int32).toInt64 * v10)), (8, .long 0), (10, .int 0)]) [5, 4, 3, 2, 1, 0] rfl ?_
  exact ck_passingYear_31L s0 D cB cI cJ cD n x0 v1 v9 ((x1 : Int32).toInt64 * v10) a0 n (0, 0) ⟨b2, b3, b4, hc5, hc6, hc7, hc8⟩ h hQ

