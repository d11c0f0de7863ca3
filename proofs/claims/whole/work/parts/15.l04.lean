def l_busiest_117 (n : Nat) (x2 : Int32) (x3 : Int32) (x4 : Int32) (x5 : Int32) (x6 : Int32) (x7 : vDes) (x8 : Int32) (x9 : Int32) (x10 : Int32) : Option ((Int32 × Int32 × Int32) ⊕ (Int64)) := some (.inl (x8, x9, (x10 + 1)))
set_option maxHeartbeats 4000000 in
set_option maxRecDepth 100000 in
theorem cl_busiest_117 (s0 : State) (D : va_G) (cB cI cJ cD : ClassId) (n : Nat) (x2 : Int32) (x3 : Int32) (x4 : Int32) (x5 : Int32) (x6 : Int32) (x7 : vDes) (x8 : Int32) (x9 : Int32) (x10 : Int32) (a7 : Nat) {x : (Int32 × Int32 × Int32) ⊕ (Int64)} {hi0 hi hm : zHp} {nx : Nat} {Q : Option Value → zHp → zHp → Nat → Prop} (ho7 : iDes cI hi a7 x7) (hXX : zX hi0 hi) (h : l_busiest_117 n x2 x3 x4 x5 x6 x7 x8 x9 x10 = some x) (hL73 : ∀ s : Int32 × Int32 × Int32, x = (.inl s) → ∀ (hi' : zHp) (nx' : Nat), zX hi0 hi' → hi = hi' → zV s0 D (zty cB cI cJ cD) yX11_busiest cX11_busiest 12 (some .long) 4 103 0 0 73 [(2, .int x2), (3, .int x3), (4, .int x4), (5, .int x5), (6, .int x6), (7, .ref a7), (8, .int s.1), (9, .int s.2.1), (10, .int s.2.2)] [] hi' hm nx' Q) (hQ : ∀ r : Int64, x = (.inr r) → ∀ (hi' : zHp) (nx' : Nat), zX hi0 hi' → Q (some (.long r)) hi' hm nx') : zV s0 D (zty cB cI cJ cD) yX11_busiest cX11_busiest 12 (some .long) 4 103 0 0 117 [(2, .int x2), (3, .int x3), (4, .int x4), (5, .int x5), (6, .int x6), (7, .ref a7), (8, .int x8), (9, .int x9), (10, .int x10)] [] hi hm nx Q := by
  unfold l_busiest_117 at h
  refine zV_blk (pc' := 120) (lo' := [(10, .int (x10 + 1)), (2, .int x2), (3, .int x3), (4, .int x4), (5, .int x5), (6, .int x6), (7, .ref a7), (8, .int x8), (9, .int x9)]) (st' := []) [.iinc 10 1] (by decide +kernel) rfl ?_
  refine zV_goto (tgt := 73) (off := -47) (by decide +kernel) (by decide) ?_
  obtain rfl := Option.some.inj h
  refine zV_pick (lo2 := [(2, .int x2), (3, .int x3), (4, .int x4), (5, .int x5), (6, .int x6), (7, .ref a7), (8, .int x8), (9, .int x9), (10, .int (x10 + 1))]) [1, 2, 3, 4, 5, 6, 7, 8, 0] rfl ?_
  exact hL73 _ rfl _ _ hXX rfl
def l_busiest_73 (n : Nat) (x2 : Int32) (x3 : Int32) (x4 : Int32) (x5 : Int32) (x6 : Int32) (x7 : vDes) (s : Int32 × Int32 × Int32) : Option ((Int32 × Int32 × Int32) ⊕ (Int64)) := (if ((nI x7.1.2.2.1.1) : Int32) ≤ (s.2.2 : Int32) then (if (x6 : Int32) = (0 : Int32) then some (.inr (s.1 : Int32).toInt64) else some (.inr (s.2.1 : Int32).toInt64)) else (k_timesOnWeekday n x7 x2 x3 s.2.2 x4 x5).bind (fun v11 => (if (v11 : Int32) ≤ (s.2.1 : Int32) then (l_busiest_117 n x2 x3 x4 x5 x6 x7 s.1 s.2.1 s.2.2 ) else (l_busiest_117 n x2 x3 x4 x5 x6 x7 s.2.2 v11 s.2.2 ))))
set_option maxHeartbeats 4000000 in
set_option maxRecDepth 100000 in
theorem cl_busiest_73 (s0 : State) (D : va_G) (cB cI cJ cD : ClassId) (n : Nat) (x2 : Int32) (x3 : Int32) (x4 : Int32) (x5 : Int32) (x6 : Int32) (x7 : vDes) (a7 : Nat) (s : Int32 × Int32 × Int32) {x : (Int32 × Int32 × Int32) ⊕ (Int64)} {hi0 hi hm : zHp} {nx : Nat} {Q : Option Value → zHp → zHp → Nat → Prop} (ho7 : iDes cI hi a7 x7) (hXX : zX hi0 hi) (h : l_busiest_73 n x2 x3 x4 x5 x6 x7 s = some x) (hL73 : ∀ s : Int32 × Int32 × Int32, x = (.inl s) → ∀ (hi' : zHp) (nx' : Nat), zX hi0 hi' → hi = hi' → zV s0 D (zty cB cI cJ cD) yX11_busiest cX11_busiest 12 (some .long) 4 103 0 0 73 [(2, .int x2), (3, .int x3), (4, .int x4), (5, .int x5), (6, .int x6), (7, .ref a7), (8, .int s.1), (9, .int s.2.1), (10, .int s.2.2)] [] hi' hm nx' Q) (hQ : ∀ r : Int64, x = (.inr r) → ∀ (hi' : zHp) (nx' : Nat), zX hi0 hi' → Q (some (.long r)) hi' hm nx') : zV s0 D (zty cB cI cJ cD) yX11_busiest cX11_busiest 12 (some .long) 4 103 0 0 73 [(2, .int x2), (3, .int x3), (4, .int x4), (5, .int x5), (6, .int x6), (7, .ref a7), (8, .int s.1), (9, .int s.2.1), (10, .int s.2.2)] [] hi hm nx Q := by
  unfold l_busiest_73 at h
  refine zV_blk (pc' := 77) (lo' := [(2, .int x2), (3, .int x3), (4, .int x4), (5, .int x5), (6, .int x6), (7, .ref a7), (8, .int s.1), (9, .int s.2.1), (10, .int s.2.2)]) (st' := [.ref a7, .int s.2.2]) [.iload 10, .aload 7] (by decide +kernel) rfl ?_
  obtain ⟨b1, b2, b3, hc4, hc5, hc6, hc7⟩ := ho7
  refine zV_get (ci := 0) (idx := 109) (k := 0) (N := 3) (fs := [.ref b1, .ref b2, .ref b3]) (v := .ref b1) (Or.inl hc4) rfl z_in0 (by decide) (zT_mem 564 (by decide +kernel) rfl) rfl (by decide +kernel) ?_
  obtain ⟨b8, hc9, hb10⟩ := hc5
  refine zV_get (ci := 3) (idx := 124) (k := 2) (N := 6) (fs := [.int x7.1.1, .int x7.1.2.1, .ref b8, .int x7.1.2.2.2.1, .int x7.1.2.2.2.2.1, .int x7.1.2.2.2.2.2]) (v := .ref b8) (Or.inl hc9) rfl z_in3 (by decide) (zT_mem 539 (by decide +kernel) rfl) rfl (by decide +kernel) ?_
  refine zV_alen 1 (Or.inl hb10) rfl (by decide +kernel) ?_
  refine zV_icmp_ge (tgt := 123) (off := 39) (by decide +kernel) (by decide) (fun q => ?_) (fun q => ?_)
  · replace h := zif_pos q h
    clear q
    refine zV_blk (pc' := 125) (lo' := [(2, .int x2), (3, .int x3), (4, .int x4), (5, .int x5), (6, .int x6), (7, .ref a7), (8, .int s.1), (9, .int s.2.1), (10, .int s.2.2)]) (st' := [.int x6]) [.iload 6] (by decide +kernel) rfl ?_
    refine zV_if_ne (tgt := 134) (off := 9) (by decide +kernel) (by decide) (fun q => ?_) (fun q => ?_)
    · replace h := zif_neg q h
      clear q
      refine zV_blk (pc' := 137) (lo' := [(2, .int x2), (3, .int x3), (4, .int x4), (5, .int x5), (6, .int x6), (7, .ref a7), (8, .int s.1), (9, .int s.2.1), (10, .int s.2.2)]) (st' := [.long (s.2.1 : Int32).toInt64]) [.iload 9, .i2l] (by decide +kernel) rfl ?_
      obtain rfl := Option.some.inj h
      exact zV_lret rfl (by decide +kernel) (hQ _ rfl _ _ hXX)
    · replace h := zif_pos q h
      clear q
      refine zV_blk (pc' := 131) (lo' := [(2, .int x2), (3, .int x3), (4, .int x4), (5, .int x5), (6, .int x6), (7, .ref a7), (8, .int s.1), (9, .int s.2.1), (10, .int s.2.2)]) (st' := [.long (s.1 : Int32).toInt64]) [.iload 8, .i2l] (by decide +kernel) rfl ?_
      refine zV_goto (tgt := 137) (off := 6) (by decide +kernel) (by decide) ?_
      obtain rfl := Option.some.inj h
      exact zV_lret rfl (by decide +kernel) (hQ _ rfl _ _ hXX)
  · replace h := zif_neg q h
    clear q
    refine zV_blk (pc' := 97) (lo' := [(2, .int x2), (3, .int x3), (4, .int x4), (5, .int x5), (6, .int x6), (7, .ref a7), (8, .int s.1), (9, .int s.2.1), (10, .int s.2.2)]) (st' := [.int x5, .int x4, .int s.2.2, .int x3, .int x2, .ref a7]) [.aload 7, .iload_n 2, .iload_n 3, .iload 10, .iload 4, .iload 5] (by decide +kernel) rfl ?_
    obtain ⟨v11, hv11, h⟩ := zbind h
    refine zV_roV (idx := 324) (rest := []) (fs := [.ref b1, .ref b2, .ref b3]) (ci := 0) (fun Q2 hQ2 => ck_timesOnWeekday s0 D cB cI cJ cD n x7 x2 x3 s.2.2 x4 x5 a7 v11 hv11 ⟨b1, b2, b3, hc4, ⟨b8, hc9, hb10⟩, hc6, hc7⟩ hQ2) oX0_timesOnWeekday (Or.inl hc4) rfl (zT_mem 1244 (by decide +kernel) rfl) (zT_mem 1245 (by decide +kernel) rfl) (zT_mem 1246 (by decide +kernel) rfl) rfl rfl (Nat.le_of_ble_eq_true rfl) ⟨by decide, by decide⟩ (by decide +kernel) ?_
    refine zV_eq (st2 := [.int v11]) rfl rfl rfl rfl ?_
    refine zV_blk (pc' := 106) (lo' := [(11, .int v11), (2, .int x2), (3, .int x3), (4, .int x4), (5, .int x5), (6, .int x6), (7, .ref a7), (8, .int s.1), (9, .int s.2.1), (10, .int s.2.2)]) (st' := [.int s.2.1, .int v11]) [.istore 11, .iload 11, .iload 9] (by decide +kernel) rfl ?_
    refine zV_icmp_le (tgt := 117) (off := 11) (by decide +kernel) (by decide) (fun q => ?_) (fun q => ?_)
    · replace h := zif_pos q h
      clear q
      refine zV_pick (lo2 := [(2, .int x2), (3, .int x3), (4, .int x4), (5, .int x5), (6, .int x6), (7, .ref a7), (8, .int s.1), (9, .int s.2.1), (10, .int s.2.2)]) [1, 2, 3, 4, 5, 6, 7, 8, 9] rfl ?_
      exact cl_busiest_117 s0 D cB cI cJ cD n x2 x3 x4 x5 x6 x7 s.1 s.2.1 s.2.2  a7 ⟨b1, b2, b3, hc4, ⟨b8, hc9, hb10⟩, hc6, hc7⟩ hXX h hL73 hQ
    · replace h := zif_neg q h
      clear q
      refine zV_blk (pc' := 117) (lo' := [(8, .int s.2.2), (9, .int v11), (11, .int v11), (2, .int x2), (3, .int x3), (4, .int x4), (5, .int x5), (6, .int x6), (7, .ref a7), (10, .int s.2.2)]) (st' := []) [.iload 11, .istore 9, .iload 10, .istore 8] (by decide +kernel) rfl ?_
      refine zV_pick (lo2 := [(2, .int x2), (3, .int x3), (4, .int x4), (5, .int x5), (6, .int x6), (7, .ref a7), (8, .int s.2.2), (9, .int v11), (10, .int s.2.2)]) [3, 4, 5, 6, 7, 8, 0, 1, 9] rfl ?_
      exact cl_busiest_117 s0 D cB cI cJ cD n x2 x3 x4 x5 x6 x7 s.2.2 v11 s.2.2  a7 ⟨b1, b2, b3, hc4, ⟨b8, hc9, hb10⟩, hc6, hc7⟩ hXX h hL73 hQ
theorem cl_busiest_73L (s0 : State) (D : va_G) (cB cI cJ cD : ClassId) (n : Nat) (x2 : Int32) (x3 : Int32) (x4 : Int32) (x5 : Int32) (x6 : Int32) (x7 : vDes) (a7 : Nat) : ∀ (k : Nat) (s : Int32 × Int32 × Int32) {hi0 hi hm : zHp} {nx : Nat} {Q : Option Value → zHp → zHp → Nat → Prop} (ho7 : iDes cI hi a7 x7) (_ : zX hi0 hi) {x : Int64} (_ : zloop (l_busiest_73 n x2 x3 x4 x5 x6 x7) k s = some x) (hQ : ∀ r : Int64, x = r → ∀ (hi' : zHp) (nx' : Nat), zX hi0 hi' → Q (some (.long r)) hi' hm nx'), zV s0 D (zty cB cI cJ cD) yX11_busiest cX11_busiest 12 (some .long) 4 103 0 0 73 [(2, .int x2), (3, .int x3), (4, .int x4), (5, .int x5), (6, .int x6), (7, .ref a7), (8, .int s.1), (9, .int s.2.1), (10, .int s.2.2)] [] hi hm nx Q
  | 0, s, _, _, _, _, _, _, _, _, h, _ => by cases h
  | k + 1, s, hi0, hi, hm, nx, Q, ho7, hXX, x, h, hQ => by
    obtain ⟨z, hz, h1, h2⟩ := zloop_succ h
    exact cl_busiest_73 s0 D cB cI cJ cD n x2 x3 x4 x5 x6 x7 a7 s ho7 hXX hz (fun s' hs hi' nx' hX hi9 => cl_busiest_73L s0 D cB cI cJ cD n x2 x3 x4 x5 x6 x7 a7 k s' (hi9 ▸ ho7) hX (h1 s' hs) hQ) (fun r hr => hQ r (h2 _ hr).symm)
def l_busiest (n : Nat) (x0 : (Nat → Option vDes)) (x1 : Int32) (x2 : Int32) (x3 : Int32) (x4 : Int32) (x5 : Int32) (x6 : Int32) : Option (Int64) := (k_designAt x0 x1).bind (fun v1 => zOm v1 (some (-1000000000000000)) (fun z3 => (k_isStretch x2 x3).bind (fun v5 => (if v5 = true then (k_hasWeekday z3.1 x5).bind (fun v13 => (if v13 = true then (if (x4 : Int32) < (0 : Int32) then some (-1000000000000000) else (if (99 : Int32) < (x4 : Int32) then some (-1000000000000000) else (if (x6 : Int32) < (0 : Int32) then some (-1000000000000000) else (if (x6 : Int32) ≤ (1 : Int32) then (zloop (l_busiest_73 n x2 x3 x4 x5 x6 z3) n ((-1), 0, 0)) else some (-1000000000000000))))) else some (-1000000000000000))) else some (-1000000000000000)))))
theorem oX11_busiest : zO yX11_busiest cX11_busiest 12 (some .long) 6 := ⟨zT_mem 1270 (by decide +kernel) rfl, zT_mem 89 (by decide +kernel) rfl, by decide +kernel, by decide +kernel, by decide +kernel⟩
set_option maxHeartbeats 4000000 in
set_option maxRecDepth 100000 in
theorem cl_busiest (s0 : State) (D : va_G) (cB cI cJ cD : ClassId) (n : Nat) (x0 : (Nat → Option vDes)) (x1 : Int32) (x2 : Int32) (x3 : Int32) (x4 : Int32) (x5 : Int32) (x6 : Int32) (a0 : Nat) (x : Int64) (h : l_busiest n x0 x1 x2 x3 x4 x5 x6 = some x) {hi hm : zHp} {nx : Nat} {Q : Option Value → zHp → zHp → Nat → Prop} (ho0 : iLD cI cD hi hm a0 x0) (hQ0 : ∀ (hi' : zHp) (nx' : Nat), zX hi hi' → Q (some (.long x)) hi' hm nx') : zM s0 D (zty cB cI cJ cD) yX11_busiest cX11_busiest 12 (some .long) 4 103 0 0 [.ref a0, .int x1, .int x2, .int x3, .int x4, .int x5, .int x6] hi hm nx Q := by
  have hQ : ∀ r : Int64, x = r → ∀ (hi' : zHp) (nx' : Nat), zX hi hi' → Q (some (.long r)) hi' hm nx' := fun r hr => by subst hr; exact hQ0
  clear hQ0
  have hXX : zX hi hi := zX.rf
  refine zM_of (by decide +kernel) (Nat.le_of_ble_eq_true rfl) ?_
  unfold l_busiest at h
  refine zV_eq (lo2 := [(0, .ref a0), (1, .int x1), (2, .int x2), (3, .int x3), (4, .int x4), (5, .int x5), (6, .int x6)]) rfl rfl rfl rfl ?_
  refine zV_blk (pc' := 2) (lo' := [(0, .ref a0), (1, .int x1), (2, .int x2), (3, .int x3), (4, .int x4), (5, .int x5), (6, .int x6)]) (st' := [.int x1, .ref a0]) [.aload_n 0, .iload_n 1] (by decide +kernel) rfl ?_
  obtain ⟨v1, hv1, h⟩ := zbind h
  refine zV_designAt (idx := 105) (rest := []) v1 hv1 ho0 (zT_mem 603 (by decide +kernel) rfl) rfl (Nat.le_of_ble_eq_true rfl) ⟨by decide, by decide⟩ (by decide +kernel) (fun hx => ?_) (fun b2 z3 hx ho4 => ?_)
  · subst hx; replace h := zOm_none h
    refine zV_blk (pc' := 9) (lo' := [(7, .null), (0, .ref a0), (1, .int x1), (2, .int x2), (3, .int x3), (4, .int x4), (5, .int x5), (6, .int x6)]) (st' := [.null]) [.astore 7, .aload 7] (by decide +kernel) rfl ?_
    refine zV_ifnull (r := none) (tgt := 33) (off := 24) (by decide +kernel) (by decide) (fun _ => ?_) (fun _ q => by cases q)
    refine zV_ldc2 (idx := 164) (v := (-1000000000000000)) (zT_mem 681 (by decide +kernel) rfl) (by decide +kernel) ?_
    obtain rfl := Option.some.inj h
    exact zV_lret rfl (by decide +kernel) (hQ _ rfl _ _ hXX)
  · subst hx; replace h := zOm_some h
    refine zV_blk (pc' := 9) (lo' := [(7, .ref b2), (0, .ref a0), (1, .int x1), (2, .int x2), (3, .int x3), (4, .int x4), (5, .int x5), (6, .int x6)]) (st' := [.ref b2]) [.astore 7, .aload 7] (by decide +kernel) rfl ?_
    refine zV_ifnull (r := some b2) (tgt := 33) (off := 24) (by decide +kernel) (by decide) (fun q => by cases q) (fun _ _ => ?_)
    refine zV_blk (pc' := 14) (lo' := [(7, .ref b2), (0, .ref a0), (1, .int x1), (2, .int x2), (3, .int x3), (4, .int x4), (5, .int x5), (6, .int x6)]) (st' := [.int x3, .int x2]) [.iload_n 2, .iload_n 3] (by decide +kernel) rfl ?_
    obtain ⟨v5, hv5, h⟩ := zbind h
    refine zV_roS (idx := 315) (rest := []) (fun Q2 hQ2 => ck_isStretch s0 D cB cI cJ cD x2 x3  v5 hv5  hQ2) oX11_isStretch (zT_mem 1233 (by decide +kernel) rfl) (zT_mem 1234 (by decide +kernel) rfl) rfl rfl (Nat.le_of_ble_eq_true rfl) ⟨by decide, by decide⟩ (by decide +kernel) ?_
    refine zV_eq (st2 := [.int (zb v5)]) rfl rfl rfl rfl ?_
    refine zV_bif_eq (tgt := 33) (off := 16) (by decide +kernel) (by decide) (fun q => ?_) (fun q => ?_)
    · replace h := zif_neg q h
      clear q
      refine zV_ldc2 (idx := 164) (v := (-1000000000000000)) (zT_mem 681 (by decide +kernel) rfl) (by decide +kernel) ?_
      obtain rfl := Option.some.inj h
      exact zV_lret rfl (by decide +kernel) (hQ _ rfl _ _ hXX)
    · replace h := zif_pos q h
      clear q
      refine zV_blk (pc' := 22) (lo' := [(7, .ref b2), (0, .ref a0), (1, .int x1), (2, .int x2), (3, .int x3), (4, .int x4), (5, .int x5), (6, .int x6)]) (st' := [.ref b2]) [.aload 7] (by decide +kernel) rfl ?_
      obtain ⟨b6, b7, b8, hc9, hc10, hc11, hc12⟩ := ho4
      refine zV_get (ci := 0) (idx := 109) (k := 0) (N := 3) (fs := [.ref b6, .ref b7, .ref b8]) (v := .ref b6) (Or.inl hc9) rfl z_in0 (by decide) (zT_mem 564 (by decide +kernel) rfl) rfl (by decide +kernel) ?_
      refine zV_blk (pc' := 27) (lo' := [(7, .ref b2), (0, .ref a0), (1, .int x1), (2, .int x2), (3, .int x3), (4, .int x4), (5, .int x5), (6, .int x6)]) (st' := [.int x5, .ref b6]) [.iload 5] (by decide +kernel) rfl ?_
      obtain ⟨v13, hv13, h⟩ := zbind h
      obtain ⟨b14, hc15, hb16⟩ := hc10
      refine zV_roV (idx := 321) (rest := []) (fs := [.int z3.1.1, .int z3.1.2.1, .ref b14, .int z3.1.2.2.2.1, .int z3.1.2.2.2.2.1, .int z3.1.2.2.2.2.2]) (ci := 3) (fun Q2 hQ2 => ck_hasWeekday s0 D cB cI cJ cD z3.1 x5 b6 v13 hv13 ⟨b14, hc15, hb16⟩ hQ2) oX3_hasWeekday (Or.inl hc15) rfl (zT_mem 1240 (by decide +kernel) rfl) (zT_mem 1241 (by decide +kernel) rfl) (zT_mem 1242 (by decide +kernel) rfl) rfl rfl (Nat.le_of_ble_eq_true rfl) ⟨by decide, by decide⟩ (by decide +kernel) ?_
      refine zV_eq (st2 := [.int (zb v13)]) rfl rfl rfl rfl ?_
      refine zV_bif_ne (tgt := 37) (off := 7) (by decide +kernel) (by decide) (fun q => ?_) (fun q => ?_)
      · replace h := zif_pos q h
        clear q
        refine zV_blk (pc' := 39) (lo' := [(7, .ref b2), (0, .ref a0), (1, .int x1), (2, .int x2), (3, .int x3), (4, .int x4), (5, .int x5), (6, .int x6)]) (st' := [.int x4]) [.iload 4] (by decide +kernel) rfl ?_
        refine zV_if_lt (tgt := 60) (off := 21) (by decide +kernel) (by decide) (fun q => ?_) (fun q => ?_)
        · replace h := zif_pos q h
          clear q
          refine zV_ldc2 (idx := 164) (v := (-1000000000000000)) (zT_mem 681 (by decide +kernel) rfl) (by decide +kernel) ?_
          obtain rfl := Option.some.inj h
          exact zV_lret rfl (by decide +kernel) (hQ _ rfl _ _ hXX)
        · replace h := zif_neg q h
          clear q
          refine zV_blk (pc' := 46) (lo' := [(7, .ref b2), (0, .ref a0), (1, .int x1), (2, .int x2), (3, .int x3), (4, .int x4), (5, .int x5), (6, .int x6)]) (st' := [.int 99, .int x4]) [.iload 4, .bipush 99] (by decide +kernel) rfl ?_
          refine zV_icmp_gt (tgt := 60) (off := 14) (by decide +kernel) (by decide) (fun q => ?_) (fun q => ?_)
          · replace h := zif_pos q h
            clear q
            refine zV_ldc2 (idx := 164) (v := (-1000000000000000)) (zT_mem 681 (by decide +kernel) rfl) (by decide +kernel) ?_
            obtain rfl := Option.some.inj h
            exact zV_lret rfl (by decide +kernel) (hQ _ rfl _ _ hXX)
          · replace h := zif_neg q h
            clear q
            refine zV_blk (pc' := 51) (lo' := [(7, .ref b2), (0, .ref a0), (1, .int x1), (2, .int x2), (3, .int x3), (4, .int x4), (5, .int x5), (6, .int x6)]) (st' := [.int x6]) [.iload 6] (by decide +kernel) rfl ?_
            refine zV_if_lt (tgt := 60) (off := 9) (by decide +kernel) (by decide) (fun q => ?_) (fun q => ?_)
            · replace h := zif_pos q h
              clear q
              refine zV_ldc2 (idx := 164) (v := (-1000000000000000)) (zT_mem 681 (by decide +kernel) rfl) (by decide +kernel) ?_
              obtain rfl := Option.some.inj h
              exact zV_lret rfl (by decide +kernel) (hQ _ rfl _ _ hXX)
            · replace h := zif_neg q h
              clear q
              refine zV_blk (pc' := 57) (lo' := [(7, .ref b2), (0, .ref a0), (1, .int x1), (2, .int x2), (3, .int x3), (4, .int x4), (5, .int x5), (6, .int x6)]) (st' := [.int 1, .int x6]) [.iload 6, .iconst 1] (by decide +kernel) rfl ?_
              refine zV_icmp_le (tgt := 64) (off := 7) (by decide +kernel) (by decide) (fun q => ?_) (fun q => ?_)
              · replace h := zif_pos q h
                clear q
                refine zV_blk (pc' := 73) (lo' := [(10, .int 0), (9, .int 0), (8, .int (-1)), (7, .ref b2), (0, .ref a0), (1, .int x1), (2, .int x2), (3, .int x3), (4, .int x4), (5, .int x5), (6, .int x6)]) (st' := []) [.iconst (-1), .istore 8, .iconst 0, .istore 9, .iconst 0, .istore 10] (by decide +kernel) rfl ?_
                refine zV_pick (lo2 := [(2, .int x2), (3, .int x3), (4, .int x4), (5, .int x5), (6, .int x6), (7, .ref b2), (8, .int (-1)), (9, .int 0), (10, .int 0)]) [6, 7, 8, 9, 10, 3, 2, 1, 0] rfl ?_
                exact cl_busiest_73L s0 D cB cI cJ cD n x2 x3 x4 x5 x6 z3 b2 n ((-1), 0, 0)  ⟨b6, b7, b8, hc9, ⟨b14, hc15, hb16⟩, hc11, hc12⟩  hXX h hQ
              · replace h := zif_neg q h
                clear q
                refine zV_ldc2 (idx := 164) (v := (-1000000000000000)) (zT_mem 681 (by decide +kernel) rfl) (by decide +kernel) ?_
                obtain rfl := Option.some.inj h
                exact zV_lret rfl (by decide +kernel) (hQ _ rfl _ _ hXX)
      · replace h := zif_neg q h
        clear q
        refine zV_ldc2 (idx := 164) (v := (-1000000000000000)) (zT_mem 681 (by decide +kernel) rfl) (by decide +kernel) ?_
        obtain rfl := Option.some.inj h
        exact zV_lret rfl (by decide +kernel) (hQ _ rfl _ _ hXX)

def l_moons (n : Nat) (x0 : (Nat → Option vDes)) (x1 : Int32) (x2 : Int32) (x3 : Int32) (x4 : Int32) (x5 : Int32) : Option (Int64) := (k_designAt x0 x1).bind (fun v1 => zOm v1 (some (-1000000000000000)) (fun z3 => (k_isYear x2).bind (fun v5 => (if v5 = true then (k_isMoon x3 x4).bind (fun v6 => (if v6 = true then (k_startOf n z3 x2).bind (fun v7 => (k_moonFrom v7 x3 x4).bind (fun v15 => (k_startOf n z3 (x2 + 1)).bind (fun v16 => (k_moonFrom v16 x3 x4).bind (fun v17 => (if (x5 : Int32) = 0 then some (v17 - v15) else (if (x5 : Int32) = 1 then (if (v17 : Int64) = (v15 : Int64) then some (-1) else (k_moonDay v15 x3 x4).bind (fun v20 => some (v20 - v7))) else (if (x5 : Int32) = 2 then (if (v17 : Int64) = (v15 : Int64) then some (-1) else (k_moonDay (v17 - 1) x3 x4).bind (fun v22 => some (v22 - v7))) else some (-1000000000000000)))))))) else some (-1000000000000000))) else some (-1000000000000000)))))
theorem oX11_moons : zO yX11_moons cX11_moons 13 (some .long) 5 := ⟨zT_mem 1274 (by decide +kernel) rfl, zT_mem 89 (by decide +kernel) rfl, by decide +kernel, by decide +kernel, by decide +kernel⟩
set_option maxHeartbeats 4000000 in
set_option maxRecDepth 100000 in
theorem cl_moons (s0 : State) (D : va_G) (cB cI cJ cD : ClassId) (n : Nat) (x0 : (Nat → Option vDes)) (x1 : Int32) (x2 : Int32) (x3 : Int32) (x4 : Int32) (x5 : Int32) (a0 : Nat) (x : Int64) (h : l_moons n x0 x1 x2 x3 x4 x5 = some x) {hi hm : zHp} {nx : Nat} {Q : Option Value → zHp → zHp → Nat → Prop} (ho0 : iLD cI cD hi hm a0 x0) (hQ0 : ∀ (hi' : zHp) (nx' : Nat), zX hi hi' → Q (some (.long x)) hi' hm nx') : zM s0 D (zty cB cI cJ cD) yX11_moons cX11_moons 13 (some .long) 3 67 0 0 [.ref a0, .int x1, .int x2, .int x3, .int x4, .int x5] hi hm nx Q := by
  have hQ : ∀ r : Int64, x = r → ∀ (hi' : zHp) (nx' : Nat), zX hi hi' → Q (some (.long r)) hi' hm nx' := fun r hr => by subst hr; exact hQ0
  clear hQ0
  have hXX : zX hi hi := zX.rf
  refine zM_of (by decide +kernel) (Nat.le_of_ble_eq_true rfl) ?_
  unfold l_moons at h
  refine zV_eq (lo2 := [(0, .ref a0), (1, .int x1), (2, .int x2), (3, .int x3), (4, .int x4), (5, .int x5)]) rfl rfl rfl rfl ?_
  refine zV_blk (pc' := 2) (lo' := [(0, .ref a0), (1, .int x1), (2, .int x2), (3, .int x3), (4, .int x4), (5, .int x5)]) (st' := [.int x1, .ref a0]) [.aload_n 0, .iload_n 1] (by decide +kernel) rfl ?_
  obtain ⟨v1, hv1, h⟩ := zbind h
  refine zV_designAt (idx := 105) (rest := []) v1 hv1 ho0 (zT_mem 603 (by decide +kernel) rfl) rfl (Nat.le_of_ble_eq_true rfl) ⟨by decide, by decide⟩ (by decide +kernel) (fun hx => ?_) (fun b2 z3 hx ho4 => ?_)
  · subst hx; replace h := zOm_none h
    refine zV_blk (pc' := 9) (lo' := [(6, .null), (0, .ref a0), (1, .int x1), (2, .int x2), (3, .int x3), (4, .int x4), (5, .int x5)]) (st' := [.null]) [.astore 6, .aload 6] (by decide +kernel) rfl ?_
    refine zV_ifnull (r := none) (tgt := 28) (off := 19) (by decide +kernel) (by decide) (fun _ => ?_) (fun _ q => by cases q)
    refine zV_ldc2 (idx := 164) (v := (-1000000000000000)) (zT_mem 681 (by decide +kernel) rfl) (by decide +kernel) ?_
    obtain rfl := Option.some.inj h
    exact zV_lret rfl (by decide +kernel) (hQ _ rfl _ _ hXX)
  · subst hx; replace h := zOm_some h
    refine zV_blk (pc' := 9) (lo' := [(6, .ref b2), (0, .ref a0), (1, .int x1), (2, .int x2), (3, .int x3), (4, .int x4), (5, .int x5)]) (st' := [.ref b2]) [.astore 6, .aload 6] (by decide +kernel) rfl ?_
    refine zV_ifnull (r := some b2) (tgt := 28) (off := 19) (by decide +kernel) (by decide) (fun q => by cases q) (fun _ _ => ?_)
    refine zV_blk (pc' := 13) (lo' := [(6, .ref b2), (0, .ref a0), (1, .int x1), (2, .int x2), (3, .int x3), (4, .int x4), (5, .int x5)]) (st' := [.int x2]) [.iload_n 2] (by decide +kernel) rfl ?_
    obtain ⟨v5, hv5, h⟩ := zbind h
    refine zV_roS (idx := 220) (rest := []) (fun Q2 hQ2 => ck_isYear s0 D cB cI cJ cD x2  v5 hv5  hQ2) oX11_isYear (zT_mem 1009 (by decide +kernel) rfl) (zT_mem 1010 (by decide +kernel) rfl) rfl rfl (Nat.le_of_ble_eq_true rfl) ⟨by decide, by decide⟩ (by decide +kernel) ?_
    refine zV_eq (st2 := [.int (zb v5)]) rfl rfl rfl rfl ?_
    refine zV_bif_eq (tgt := 28) (off := 12) (by decide +kernel) (by decide) (fun q => ?_) (fun q => ?_)
    · replace h := zif_neg q h
      clear q
      refine zV_ldc2 (idx := 164) (v := (-1000000000000000)) (zT_mem 681 (by decide +kernel) rfl) (by decide +kernel) ?_
      obtain rfl := Option.some.inj h
      exact zV_lret rfl (by decide +kernel) (hQ _ rfl _ _ hXX)
    · replace h := zif_pos q h
      clear q
      refine zV_blk (pc' := 22) (lo' := [(6, .ref b2), (0, .ref a0), (1, .int x1), (2, .int x2), (3, .int x3), (4, .int x4), (5, .int x5)]) (st' := [.int x4, .int x3]) [.iload_n 3, .iload 4] (by decide +kernel) rfl ?_
      obtain ⟨v6, hv6, h⟩ := zbind h
      refine zV_roS (idx := 342) (rest := []) (fun Q2 hQ2 => ck_isMoon s0 D cB cI cJ cD x3 x4  v6 hv6  hQ2) oX11_isMoon (zT_mem 1275 (by decide +kernel) rfl) (zT_mem 1276 (by decide +kernel) rfl) rfl rfl (Nat.le_of_ble_eq_true rfl) ⟨by decide, by decide⟩ (by decide +kernel) ?_
      refine zV_eq (st2 := [.int (zb v6)]) rfl rfl rfl rfl ?_
      refine zV_bif_ne (tgt := 32) (off := 7) (by decide +kernel) (by decide) (fun q => ?_) (fun q => ?_)
      · replace h := zif_pos q h
        clear q
        refine zV_blk (pc' := 35) (lo' := [(6, .ref b2), (0, .ref a0), (1, .int x1), (2, .int x2), (3, .int x3), (4, .int x4), (5, .int x5)]) (st' := [.int x2, .ref b2]) [.aload 6, .iload_n 2] (by decide +kernel) rfl ?_
        obtain ⟨v7, hv7, h⟩ := zbind h
        obtain ⟨b8, b9, b10, hc11, hc12, hc13, hc14⟩ := ho4
        refine zV_roV (idx := 230) (rest := []) (fs := [.ref b8, .ref b9, .ref b10]) (ci := 0) (fun Q2 hQ2 => ck_startOf s0 D cB cI cJ cD n z3 x2 b2 v7 hv7 ⟨b8, b9, b10, hc11, hc12, hc13, hc14⟩ hQ2) oX0_startOf (Or.inl hc11) rfl (zT_mem 1036 (by decide +kernel) rfl) (zT_mem 719 (by decide +kernel) rfl) (zT_mem 720 (by decide +kernel) rfl) rfl rfl (Nat.le_of_ble_eq_true rfl) ⟨by decide, by decide⟩ (by decide +kernel) ?_
        refine zV_eq (st2 := [.long v7]) rfl rfl rfl rfl ?_
        refine zV_blk (pc' := 45) (lo' := [(7, .long v7), (6, .ref b2), (0, .ref a0), (1, .int x1), (2, .int x2), (3, .int x3), (4, .int x4), (5, .int x5)]) (st' := [.int x4, .int x3, .long v7]) [.lstore 7, .lload 7, .iload_n 3, .iload 4] (by decide +kernel) rfl ?_
        obtain ⟨v15, hv15, h⟩ := zbind h
        refine zV_roS (idx := 345) (rest := []) (fun Q2 hQ2 => ck_moonFrom s0 D cB cI cJ cD v7 x3 x4  v15 hv15  hQ2) oX11_moonFrom (zT_mem 1279 (by decide +kernel) rfl) (zT_mem 1280 (by decide +kernel) rfl) rfl rfl (Nat.le_of_ble_eq_true rfl) ⟨by decide, by decide⟩ (by decide +kernel) ?_
        refine zV_eq (st2 := [.long v15]) rfl rfl rfl rfl ?_
        refine zV_blk (pc' := 55) (lo' := [(9, .long v15), (7, .long v7), (6, .ref b2), (0, .ref a0), (1, .int x1), (2, .int x2), (3, .int x3), (4, .int x4), (5, .int x5)]) (st' := [.int (x2 + 1), .ref b2]) [.lstore 9, .aload 6, .iload_n 2, .iconst 1, .iadd] (by decide +kernel) rfl ?_
        obtain ⟨v16, hv16, h⟩ := zbind h
        refine zV_roV (idx := 230) (rest := []) (fs := [.ref b8, .ref b9, .ref b10]) (ci := 0) (fun Q2 hQ2 => ck_startOf s0 D cB cI cJ cD n z3 (x2 + 1) b2 v16 hv16 ⟨b8, b9, b10, hc11, hc12, hc13, hc14⟩ hQ2) oX0_startOf (Or.inl hc11) rfl (zT_mem 1036 (by decide +kernel) rfl) (zT_mem 719 (by decide +kernel) rfl) (zT_mem 720 (by decide +kernel) rfl) rfl rfl (Nat.le_of_ble_eq_true rfl) ⟨by decide, by decide⟩ (by decide +kernel) ?_
        refine zV_eq (st2 := [.long v16]) rfl rfl rfl rfl ?_
        refine zV_blk (pc' := 61) (lo' := [(9, .long v15), (7, .long v7), (6, .ref b2), (0, .ref a0), (1, .int x1), (2, .int x2), (3, .int x3), (4, .int x4), (5, .int x5)]) (st' := [.int x4, .int x3, .long v16]) [.iload_n 3, .iload 4] (by decide +kernel) rfl ?_
        obtain ⟨v17, hv17, h⟩ := zbind h
        refine zV_roS (idx := 345) (rest := []) (fun Q2 hQ2 => ck_moonFrom s0 D cB cI cJ cD v16 x3 x4  v17 hv17  hQ2) oX11_moonFrom (zT_mem 1279 (by decide +kernel) rfl) (zT_mem 1280 (by decide +kernel) rfl) rfl rfl (Nat.le_of_ble_eq_true rfl) ⟨by decide, by decide⟩ (by decide +kernel) ?_
        refine zV_eq (st2 := [.long v17]) rfl rfl rfl rfl ?_
        refine zV_blk (pc' := 68) (lo' := [(11, .long v17), (9, .long v15), (7, .long v7), (6, .ref b2), (0, .ref a0), (1, .int x1), (2, .int x2), (3, .int x3), (4, .int x4), (5, .int x5)]) (st' := [.int x5]) [.lstore 11, .iload 5] (by decide +kernel) rfl ?_
        by_cases q18 : (x5 : Int32) = 0
        · replace h := zif_pos q18 h
          refine zV_tin (tgt := 96) (off := 28) (dflt := 88) (l1 := 0) (h1 := 2) (offs := #[28, 34, 60]) (len := 28) 0 q18 (by decide +kernel) (by decide +kernel) (by decide +kernel) (by decide +kernel) (by decide) ?_
          refine zV_blk (pc' := 101) (lo' := [(11, .long v17), (9, .long v15), (7, .long v7), (6, .ref b2), (0, .ref a0), (1, .int x1), (2, .int x2), (3, .int x3), (4, .int x4), (5, .int x5)]) (st' := [.long (v17 - v15)]) [.lload 11, .lload 9, .lsub] (by decide +kernel) rfl ?_
          obtain rfl := Option.some.inj h
          exact zV_lret rfl (by decide +kernel) (hQ _ rfl _ _ hXX)
        · replace h := zif_neg q18 h
          by_cases q19 : (x5 : Int32) = 1
          · replace h := zif_pos q19 h
            refine zV_tin (tgt := 102) (off := 34) (dflt := 88) (l1 := 0) (h1 := 2) (offs := #[28, 34, 60]) (len := 28) 1 q19 (by decide +kernel) (by decide +kernel) (by decide +kernel) (by decide +kernel) (by decide) ?_
            refine zV_blk (pc' := 107) (lo' := [(11, .long v17), (9, .long v15), (7, .long v7), (6, .ref b2), (0, .ref a0), (1, .int x1), (2, .int x2), (3, .int x3), (4, .int x4), (5, .int x5)]) (st' := [.int (lg_cmp v17 v15)]) [.lload 11, .lload 9, .lcmp] (by decide +kernel) rfl ?_
            refine zV_lcmp_ne (tgt := 116) (off := 9) (by decide +kernel) (by decide) (fun q => ?_) (fun q => ?_)
            · replace h := zif_neg q h
              clear q
              refine zV_blk (pc' := 121) (lo' := [(11, .long v17), (9, .long v15), (7, .long v7), (6, .ref b2), (0, .ref a0), (1, .int x1), (2, .int x2), (3, .int x3), (4, .int x4), (5, .int x5)]) (st' := [.int x4, .int x3, .long v15]) [.lload 9, .iload_n 3, .iload 4] (by decide +kernel) rfl ?_
              obtain ⟨v20, hv20, h⟩ := zbind h
              refine zV_roS (idx := 351) (rest := []) (fun Q2 hQ2 => ck_moonDay s0 D cB cI cJ cD v15 x3 x4  v20 hv20  hQ2) oX11_moonDay (zT_mem 1284 (by decide +kernel) rfl) (zT_mem 1285 (by decide +kernel) rfl) rfl rfl (Nat.le_of_ble_eq_true rfl) ⟨by decide, by decide⟩ (by decide +kernel) ?_
              refine zV_eq (st2 := [.long v20]) rfl rfl rfl rfl ?_
              refine zV_blk (pc' := 127) (lo' := [(11, .long v17), (9, .long v15), (7, .long v7), (6, .ref b2), (0, .ref a0), (1, .int x1), (2, .int x2), (3, .int x3), (4, .int x4), (5, .int x5)]) (st' := [.long (v20 - v7)]) [.lload 7, .lsub] (by decide +kernel) rfl ?_
              obtain rfl := Option.some.inj h
              exact zV_lret rfl (by decide +kernel) (hQ _ rfl _ _ hXX)
            · replace h := zif_pos q h
              clear q
              refine zV_ldc2 (idx := 349) (v := (-1)) (zT_mem 1283 (by decide +kernel) rfl) (by decide +kernel) ?_
              refine zV_goto (tgt := 127) (off := 14) (by decide +kernel) (by decide) ?_
              obtain rfl := Option.some.inj h
              exact zV_lret rfl (by decide +kernel) (hQ _ rfl _ _ hXX)
          · replace h := zif_neg q19 h
            by_cases q21 : (x5 : Int32) = 2
            · replace h := zif_pos q21 h
              refine zV_tin (tgt := 128) (off := 60) (dflt := 88) (l1 := 0) (h1 := 2) (offs := #[28, 34, 60]) (len := 28) 2 q21 (by decide +kernel) (by decide +kernel) (by decide +kernel) (by decide +kernel) (by decide) ?_
              refine zV_blk (pc' := 133) (lo' := [(11, .long v17), (9, .long v15), (7, .long v7), (6, .ref b2), (0, .ref a0), (1, .int x1), (2, .int x2), (3, .int x3), (4, .int x4), (5, .int x5)]) (st' := [.int (lg_cmp v17 v15)]) [.lload 11, .lload 9, .lcmp] (by decide +kernel) rfl ?_
              refine zV_lcmp_ne (tgt := 142) (off := 9) (by decide +kernel) (by decide) (fun q => ?_) (fun q => ?_)
              · replace h := zif_neg q h
                clear q
                refine zV_blk (pc' := 149) (lo' := [(11, .long v17), (9, .long v15), (7, .long v7), (6, .ref b2), (0, .ref a0), (1, .int x1), (2, .int x2), (3, .int x3), (4, .int x4), (5, .int x5)]) (st' := [.int x4, .int x3, .long (v17 - 1)]) [.lload 11, .lconst 1, .lsub, .iload_n 3, .iload 4] (by decide +kernel) rfl ?_
                obtain ⟨v22, hv22, h⟩ := zbind h
                refine zV_roS (idx := 351) (rest := []) (fun Q2 hQ2 => ck_moonDay s0 D cB cI cJ cD (v17 - 1) x3 x4  v22 hv22  hQ2) oX11_moonDay (zT_mem 1284 (by decide +kernel) rfl) (zT_mem 1285 (by decide +kernel) rfl) rfl rfl (Nat.le_of_ble_eq_true rfl) ⟨by decide, by decide⟩ (by decide +kernel) ?_
                refine zV_eq (st2 := [.long v22]) rfl rfl rfl rfl ?_
                refine zV_blk (pc' := 155) (lo' := [(11, .long v17), (9, .long v15), (7, .long v7), (6, .ref b2), (0, .ref a0), (1, .int x1), (2, .int x2), (3, .int x3), (4, .int x4), (5, .int x5)]) (st' := [.long (v22 - v7)]) [.lload 7, .lsub] (by decide +kernel) rfl ?_
                obtain rfl := Option.some.inj h
                exact zV_lret rfl (by decide +kernel) (hQ _ rfl _ _ hXX)
              · replace h := zif_pos q h
                clear q
                refine zV_ldc2 (idx := 349) (v := (-1)) (zT_mem 1283 (by decide +kernel) rfl) (by decide +kernel) ?_
                refine zV_goto (tgt := 155) (off := 16) (by decide +kernel) (by decide) ?_
                obtain rfl := Option.some.inj h
                exact zV_lret rfl (by decide +kernel) (hQ _ rfl _ _ hXX)
            · replace h := zif_neg q21 h
              refine zV_tout (tgt := 156) (dflt := 88) (l1 := 0) (h1 := 2) (offs := #[28, 34, 60]) (len := 28) (by have nq18 := zne 0 0 (by decide +kernel) q18; have nq19 := zne 1 1 (by decide +kernel) q19; have nq21 := zne 2 2 (by decide +kernel) q21; omega) (by decide +kernel) (by decide) ?_
              refine zV_ldc2 (idx := 164) (v := (-1000000000000000)) (zT_mem 681 (by decide +kernel) rfl) (by decide +kernel) ?_
              obtain rfl := Option.some.inj h
              exact zV_lret rfl (by decide +kernel) (hQ _ rfl _ _ hXX)
      · replace h := zif_neg q h
        clear q
        refine zV_ldc2 (idx := 164) (v := (-1000000000000000)) (zT_mem 681 (by decide +kernel) rfl) (by decide +kernel) ?_
        obtain rfl := Option.some.inj h
        exact zV_lret rfl (by decide +kernel) (hQ _ rfl _ _ hXX)

def l_age (n : Nat) (x0 : (Nat → Option vDes)) (x1 : Int32) (x2 : Int64) (x4 : Int32) (x5 : Int32) : Option (Int64) := (k_designAt x0 x1).bind (fun v1 => zOm v1 (some (-1000000000000000)) (fun z3 => (k_isMoon x4 x5).bind (fun v5 => (if v5 = true then (k_holds n z3 x2).bind (fun v6 => (if v6 = true then (k_moonFrom (x2 + 1) x4 x5).bind (fun v14 => (k_moonDay (v14 - 1) x4 x5).bind (fun v15 => some (x2 - v15))) else some (-1000000000000000))) else some (-1000000000000000)))))
theorem oX11_age : zO yX11_age cX11_age 7 (some .long) 4 := ⟨zT_mem 1290 (by decide +kernel) rfl, zT_mem 89 (by decide +kernel) rfl, by decide +kernel, by decide +kernel, by decide +kernel⟩
set_option maxHeartbeats 4000000 in
set_option maxRecDepth 100000 in
theorem cl_age (s0 : State) (D : va_G) (cB cI cJ cD : ClassId) (n : Nat) (x0 : (Nat → Option vDes)) (x1 : Int32) (x2 : Int64) (x4 : Int32) (x5 : Int32) (a0 : Nat) (x : Int64) (h : l_age n x0 x1 x2 x4 x5 = some x) {hi hm : zHp} {nx : Nat} {Q : Option Value → zHp → zHp → Nat → Prop} (ho0 : iLD cI cD hi hm a0 x0) (hQ0 : ∀ (hi' : zHp) (nx' : Nat), zX hi hi' → Q (some (.long x)) hi' hm nx') : zM s0 D (zty cB cI cJ cD) yX11_age cX11_age 7 (some .long) 4 89 0 0 [.ref a0, .int x1, .long x2, .int x4, .int x5] hi hm nx Q := by
  have hQ : ∀ r : Int64, x = r → ∀ (hi' : zHp) (nx' : Nat), zX hi hi' → Q (some (.long r)) hi' hm nx' := fun r hr => by subst hr; exact hQ0
  clear hQ0
  have hXX : zX hi hi := zX.rf
  refine zM_of (by decide +kernel) (Nat.le_of_ble_eq_true rfl) ?_
  unfold l_age at h
  refine zV_eq (lo2 := [(0, .ref a0), (1, .int x1), (2, .long x2), (4, .int x4), (5, .int x5)]) rfl rfl rfl rfl ?_
  refine zV_blk (pc' := 2) (lo' := [(0, .ref a0), (1, .int x1), (2, .long x2), (4, .int x4), (5, .int x5)]) (st' := [.int x1, .ref a0]) [.aload_n 0, .iload_n 1] (by decide +kernel) rfl ?_
  obtain ⟨v1, hv1, h⟩ := zbind h
  refine zV_designAt (idx := 105) (rest := []) v1 hv1 ho0 (zT_mem 603 (by decide +kernel) rfl) rfl (Nat.le_of_ble_eq_true rfl) ⟨by decide, by decide⟩ (by decide +kernel) (fun hx => ?_) (fun b2 z3 hx ho4 => ?_)
  · subst hx; replace h := zOm_none h
    refine zV_blk (pc' := 9) (lo' := [(6, .null), (0, .ref a0), (1, .int x1), (2, .long x2), (4, .int x4), (5, .int x5)]) (st' := [.null]) [.astore 6, .aload 6] (by decide +kernel) rfl ?_
    refine zV_ifnull (r := none) (tgt := 31) (off := 22) (by decide +kernel) (by decide) (fun _ => ?_) (fun _ q => by cases q)
    refine zV_ldc2 (idx := 164) (v := (-1000000000000000)) (zT_mem 681 (by decide +kernel) rfl) (by decide +kernel) ?_
    obtain rfl := Option.some.inj h
    exact zV_lret rfl (by decide +kernel) (hQ _ rfl _ _ hXX)
  · subst hx; replace h := zOm_some h
    refine zV_blk (pc' := 9) (lo' := [(6, .ref b2), (0, .ref a0), (1, .int x1), (2, .long x2), (4, .int x4), (5, .int x5)]) (st' := [.ref b2]) [.astore 6, .aload 6] (by decide +kernel) rfl ?_
    refine zV_ifnull (r := some b2) (tgt := 31) (off := 22) (by decide +kernel) (by decide) (fun q => by cases q) (fun _ _ => ?_)
    refine zV_blk (pc' := 16) (lo' := [(6, .ref b2), (0, .ref a0), (1, .int x1), (2, .long x2), (4, .int x4), (5, .int x5)]) (st' := [.int x5, .int x4]) [.iload 4, .iload 5] (by decide +kernel) rfl ?_
    obtain ⟨v5, hv5, h⟩ := zbind h
    refine zV_roS (idx := 342) (rest := []) (fun Q2 hQ2 => ck_isMoon s0 D cB cI cJ cD x4 x5  v5 hv5  hQ2) oX11_isMoon (zT_mem 1275 (by decide +kernel) rfl) (zT_mem 1276 (by decide +kernel) rfl) rfl rfl (Nat.le_of_ble_eq_true rfl) ⟨by decide, by decide⟩ (by decide +kernel) ?_
    refine zV_eq (st2 := [.int (zb v5)]) rfl rfl rfl rfl ?_
    refine zV_bif_eq (tgt := 31) (off := 12) (by decide +kernel) (by decide) (fun q => ?_) (fun q => ?_)
    · replace h := zif_neg q h
      clear q
      refine zV_ldc2 (idx := 164) (v := (-1000000000000000)) (zT_mem 681 (by decide +kernel) rfl) (by decide +kernel) ?_
      obtain rfl := Option.some.inj h
      exact zV_lret rfl (by decide +kernel) (hQ _ rfl _ _ hXX)
    · replace h := zif_pos q h
      clear q
      refine zV_blk (pc' := 25) (lo' := [(6, .ref b2), (0, .ref a0), (1, .int x1), (2, .long x2), (4, .int x4), (5, .int x5)]) (st' := [.long x2, .ref b2]) [.aload 6, .lload_n 2] (by decide +kernel) rfl ?_
      obtain ⟨v6, hv6, h⟩ := zbind h
      obtain ⟨b7, b8, b9, hc10, hc11, hc12, hc13⟩ := ho4
      refine zV_roV (idx := 248) (rest := []) (fs := [.ref b7, .ref b8, .ref b9]) (ci := 0) (fun Q2 hQ2 => ck_holds s0 D cB cI cJ cD n z3 x2 b2 v6 hv6 ⟨b7, b8, b9, hc10, hc11, hc12, hc13⟩ hQ2) oX0_holds (Or.inl hc10) rfl (zT_mem 1108 (by decide +kernel) rfl) (zT_mem 1059 (by decide +kernel) rfl) (zT_mem 1060 (by decide +kernel) rfl) rfl rfl (Nat.le_of_ble_eq_true rfl) ⟨by decide, by decide⟩ (by decide +kernel) ?_
      refine zV_eq (st2 := [.int (zb v6)]) rfl rfl rfl rfl ?_
      refine zV_bif_ne (tgt := 35) (off := 7) (by decide +kernel) (by decide) (fun q => ?_) (fun q => ?_)
      · replace h := zif_pos q h
        clear q
        refine zV_blk (pc' := 43) (lo' := [(6, .ref b2), (0, .ref a0), (1, .int x1), (2, .long x2), (4, .int x4), (5, .int x5)]) (st' := [.int x5, .int x4, .long (x2 + 1), .long x2]) [.lload_n 2, .lload_n 2, .lconst 1, .ladd, .iload 4, .iload 5] (by decide +kernel) rfl ?_
        obtain ⟨v14, hv14, h⟩ := zbind h
        refine zV_roS (idx := 345) (rest := [.long x2]) (fun Q2 hQ2 => ck_moonFrom s0 D cB cI cJ cD (x2 + 1) x4 x5  v14 hv14  hQ2) oX11_moonFrom (zT_mem 1279 (by decide +kernel) rfl) (zT_mem 1280 (by decide +kernel) rfl) rfl rfl (Nat.le_of_ble_eq_true rfl) ⟨by decide, by decide⟩ (by decide +kernel) ?_
        refine zV_eq (st2 := [.long v14, .long x2]) rfl rfl rfl rfl ?_
        refine zV_blk (pc' := 52) (lo' := [(6, .ref b2), (0, .ref a0), (1, .int x1), (2, .long x2), (4, .int x4), (5, .int x5)]) (st' := [.int x5, .int x4, .long (v14 - 1), .long x2]) [.lconst 1, .lsub, .iload 4, .iload 5] (by decide +kernel) rfl ?_
        obtain ⟨v15, hv15, h⟩ := zbind h
        refine zV_roS (idx := 351) (rest := [.long x2]) (fun Q2 hQ2 => ck_moonDay s0 D cB cI cJ cD (v14 - 1) x4 x5  v15 hv15  hQ2) oX11_moonDay (zT_mem 1284 (by decide +kernel) rfl) (zT_mem 1285 (by decide +kernel) rfl) rfl rfl (Nat.le_of_ble_eq_true rfl) ⟨by decide, by decide⟩ (by decide +kernel) ?_
        refine zV_eq (st2 := [.long v15, .long x2]) rfl rfl rfl rfl ?_
        refine zV_blk (pc' := 56) (lo' := [(6, .ref b2), (0, .ref a0), (1, .int x1), (2, .long x2), (4, .int x4), (5, .int x5)]) (st' := [.long (x2 - v15)]) [.lsub] (by decide +kernel) rfl ?_
        obtain rfl := Option.some.inj h
        exact zV_lret rfl (by decide +kernel) (hQ _ rfl _ _ hXX)
      · replace h := zif_neg q h
        clear q
        refine zV_ldc2 (idx := 164) (v := (-1000000000000000)) (zT_mem 681 (by decide +kernel) rfl) (by decide +kernel) ?_
        obtain rfl := Option.some.inj h
        exact zV_lret rfl (by decide +kernel) (hQ _ rfl _ _ hXX)

def l_meets_110 (n : Nat) (x2 : Int32) (x3 : Int32) (x4 : Int32) (x5 : Int32) (x6 : Int32) (x7 : Int32) (x8 : vDes) (x9 : Int32) : Option ((Int32) ⊕ (Int64)) := some (.inl (x9 + 1))
set_option maxHeartbeats 4000000 in
set_option maxRecDepth 100000 in
theorem cl_meets_110 (s0 : State) (D : va_G) (cB cI cJ cD : ClassId) (n : Nat) (x2 : Int32) (x3 : Int32) (x4 : Int32) (x5 : Int32) (x6 : Int32) (x7 : Int32) (x8 : vDes) (x9 : Int32) (a8 : Nat) {x : (Int32) ⊕ (Int64)} {hi0 hi hm : zHp} {nx : Nat} {Q : Option Value → zHp → zHp → Nat → Prop} (ho8 : iDes cI hi a8 x8) (hXX : zX hi0 hi) (h : l_meets_110 n x2 x3 x4 x5 x6 x7 x8 x9 = some x) (hL52 : ∀ s : Int32, x = (.inl s) → ∀ (hi' : zHp) (nx' : Nat), zX hi0 hi' → hi = hi' → zV s0 D (zty cB cI cJ cD) yX11_meets cX11_meets 12 (some .long) 4 91 0 0 52 [(2, .int x2), (3, .int x3), (4, .int x4), (5, .int x5), (6, .int x6), (7, .int x7), (8, .ref a8), (9, .int s)] [] hi' hm nx' Q) (hQ : ∀ r : Int64, x = (.inr r) → ∀ (hi' : zHp) (nx' : Nat), zX hi0 hi' → Q (some (.long r)) hi' hm nx') : zV s0 D (zty cB cI cJ cD) yX11_meets cX11_meets 12 (some .long) 4 91 0 0 110 [(2, .int x2), (3, .int x3), (4, .int x4), (5, .int x5), (6, .int x6), (7, .int x7), (8, .ref a8), (9, .int x9)] [] hi hm nx Q := by
  unfold l_meets_110 at h
  refine zV_blk (pc' := 113) (lo' := [(9, .int (x9 + 1)), (2, .int x2), (3, .int x3), (4, .int x4), (5, .int x5), (6, .int x6), (7, .int x7), (8, .ref a8)]) (st' := []) [.iinc 9 1] (by decide +kernel) rfl ?_
  refine zV_goto (tgt := 52) (off := -61) (by decide +kernel) (by decide) ?_
  obtain rfl := Option.some.inj h
  refine zV_pick (lo2 := [(2, .int x2), (3, .int x3), (4, .int x4), (5, .int x5), (6, .int x6), (7, .int x7), (8, .ref a8), (9, .int (x9 + 1))]) [1, 2, 3, 4, 5, 6, 7, 0] rfl ?_
  exact hL52 _ rfl _ _ hXX rfl
def l_meets_52 (n : Nat) (x2 : Int32) (x3 : Int32) (x4 : Int32) (x5 : Int32) (x6 : Int32) (x7 : Int32) (x8 : vDes) (s : Int32) : Option ((Int32) ⊕ (Int64)) := (if (x3 : Int32) ≤ (s : Int32) then some (.inr (-1000000000000000)) else (k_numberOf n x8 (x2 + s) x4 x5).bind (fun v1 => (if (v1 : Int64) = ((-1000000000000000) : Int64) then (l_meets_110 n x2 x3 x4 x5 x6 x7 x8 s ) else (k_moonFrom v1 x6 x7).bind (fun v9 => (k_moonDay v9 x6 x7).bind (fun v10 => (if (v10 : Int64) = (v1 : Int64) then some (.inr ((x2 + s) : Int32).toInt64) else (l_meets_110 n x2 x3 x4 x5 x6 x7 x8 s )))))))
set_option maxHeartbeats 4000000 in
set_option maxRecDepth 100000 in
theorem cl_meets_52 (s0 : State) (D : va_G) (cB cI cJ cD : ClassId) (n : Nat) (x2 : Int32) (x3 : Int32) (x4 : Int32) (x5 : Int32) (x6 : Int32) (x7 : Int32) (x8 : vDes) (a8 : Nat) (s : Int32) {x : (Int32) ⊕ (Int64)} {hi0 hi hm : zHp} {nx : Nat} {Q : Option Value → zHp → zHp → Nat → Prop} (ho8 : iDes cI hi a8 x8) (hXX : zX hi0 hi) (h : l_meets_52 n x2 x3 x4 x5 x6 x7 x8 s = some x) (hL52 : ∀ s : Int32, x = (.inl s) → ∀ (hi' : zHp) (nx' : Nat), zX hi0 hi' → hi = hi' → zV s0 D (zty cB cI cJ cD) yX11_meets cX11_meets 12 (some .long) 4 91 0 0 52 [(2, .int x2), (3, .int x3), (4, .int x4), (5, .int x5), (6, .int x6), (7, .int x7), (8, .ref a8), (9, .int s)] [] hi' hm nx' Q) (hQ : ∀ r : Int64, x = (.inr r) → ∀ (hi' : zHp) (nx' : Nat), zX hi0 hi' → Q (some (.long r)) hi' hm nx') : zV s0 D (zty cB cI cJ cD) yX11_meets cX11_meets 12 (some .long) 4 91 0 0 52 [(2, .int x2), (3, .int x3), (4, .int x4), (5, .int x5), (6, .int x6), (7, .int x7), (8, .ref a8), (9, .int s)] [] hi hm nx Q := by
  unfold l_meets_52 at h
  refine zV_blk (pc' := 55) (lo' := [(2, .int x2), (3, .int x3), (4, .int x4), (5, .int x5), (6, .int x6), (7, .int x7), (8, .ref a8), (9, .int s)]) (st' := [.int x3, .int s]) [.iload 9, .iload_n 3] (by decide +kernel) rfl ?_
  refine zV_icmp_ge (tgt := 116) (off := 61) (by decide +kernel) (by decide) (fun q => ?_) (fun q => ?_)
  · replace h := zif_pos q h
    clear q
    refine zV_ldc2 (idx := 164) (v := (-1000000000000000)) (zT_mem 681 (by decide +kernel) rfl) (by decide +kernel) ?_
    obtain rfl := Option.some.inj h
    exact zV_lret rfl (by decide +kernel) (hQ _ rfl _ _ hXX)
  · replace h := zif_neg q h
    clear q
    refine zV_blk (pc' := 68) (lo' := [(2, .int x2), (3, .int x3), (4, .int x4), (5, .int x5), (6, .int x6), (7, .int x7), (8, .ref a8), (9, .int s)]) (st' := [.int x5, .int x4, .int (x2 + s), .ref a8]) [.aload 8, .iload_n 2, .iload 9, .iadd, .iload 4, .iload 5] (by decide +kernel) rfl ?_
    obtain ⟨v1, hv1, h⟩ := zbind h
    obtain ⟨b2, b3, b4, hc5, hc6, hc7, hc8⟩ := ho8
    refine zV_roV (idx := 240) (rest := []) (fs := [.ref b2, .ref b3, .ref b4]) (ci := 0) (fun Q2 hQ2 => ck_numberOf s0 D cB cI cJ cD n x8 (x2 + s) x4 x5 a8 v1 hv1 ⟨b2, b3, b4, hc5, hc6, hc7, hc8⟩ hQ2) oX0_numberOf (Or.inl hc5) rfl (zT_mem 1091 (by decide +kernel) rfl) (zT_mem 1092 (by decide +kernel) rfl) (zT_mem 1093 (by decide +kernel) rfl) rfl rfl (Nat.le_of_ble_eq_true rfl) ⟨by decide, by decide⟩ (by decide +kernel) ?_
    refine zV_eq (st2 := [.long v1]) rfl rfl rfl rfl ?_
    refine zV_blk (pc' := 75) (lo' := [(10, .long v1), (2, .int x2), (3, .int x3), (4, .int x4), (5, .int x5), (6, .int x6), (7, .int x7), (8, .ref a8), (9, .int s)]) (st' := [.long v1]) [.lstore 10, .lload 10] (by decide +kernel) rfl ?_
    refine zV_ldc2 (idx := 164) (v := (-1000000000000000)) (zT_mem 681 (by decide +kernel) rfl) (by decide +kernel) ?_
    refine zV_blk (pc' := 79) (lo' := [(10, .long v1), (2, .int x2), (3, .int x3), (4, .int x4), (5, .int x5), (6, .int x6), (7, .int x7), (8, .ref a8), (9, .int s)]) (st' := [.int (lg_cmp v1 (-1000000000000000))]) [.lcmp] (by decide +kernel) rfl ?_
    refine zV_lcmp_eq (tgt := 110) (off := 31) (by decide +kernel) (by decide) (fun q => ?_) (fun q => ?_)
    · replace h := zif_pos q h
      clear q
      refine zV_pick (lo2 := [(2, .int x2), (3, .int x3), (4, .int x4), (5, .int x5), (6, .int x6), (7, .int x7), (8, .ref a8), (9, .int s)]) [1, 2, 3, 4, 5, 6, 7, 8] rfl ?_
      exact cl_meets_110 s0 D cB cI cJ cD n x2 x3 x4 x5 x6 x7 x8 s  a8 ⟨b2, b3, b4, hc5, hc6, hc7, hc8⟩ hXX h hL52 hQ
    · replace h := zif_neg q h
      clear q
      refine zV_blk (pc' := 88) (lo' := [(10, .long v1), (2, .int x2), (3, .int x3), (4, .int x4), (5, .int x5), (6, .int x6), (7, .int x7), (8, .ref a8), (9, .int s)]) (st' := [.int x7, .int x6, .long v1]) [.lload 10, .iload 6, .iload 7] (by decide +kernel) rfl ?_
      obtain ⟨v9, hv9, h⟩ := zbind h
      refine zV_roS (idx := 345) (rest := []) (fun Q2 hQ2 => ck_moonFrom s0 D cB cI cJ cD v1 x6 x7  v9 hv9  hQ2) oX11_moonFrom (zT_mem 1279 (by decide +kernel) rfl) (zT_mem 1280 (by decide +kernel) rfl) rfl rfl (Nat.le_of_ble_eq_true rfl) ⟨by decide, by decide⟩ (by decide +kernel) ?_
      refine zV_eq (st2 := [.long v9]) rfl rfl rfl rfl ?_
      refine zV_blk (pc' := 95) (lo' := [(10, .long v1), (2, .int x2), (3, .int x3), (4, .int x4), (5, .int x5), (6, .int x6), (7, .int x7), (8, .ref a8), (9, .int s)]) (st' := [.int x7, .int x6, .long v9]) [.iload 6, .iload 7] (by decide +kernel) rfl ?_
      obtain ⟨v10, hv10, h⟩ := zbind h
      refine zV_roS (idx := 351) (rest := []) (fun Q2 hQ2 => ck_moonDay s0 D cB cI cJ cD v9 x6 x7  v10 hv10  hQ2) oX11_moonDay (zT_mem 1284 (by decide +kernel) rfl) (zT_mem 1285 (by decide +kernel) rfl) rfl rfl (Nat.le_of_ble_eq_true rfl) ⟨by decide, by decide⟩ (by decide +kernel) ?_
      refine zV_eq (st2 := [.long v10]) rfl rfl rfl rfl ?_
      refine zV_blk (pc' := 101) (lo' := [(10, .long v1), (2, .int x2), (3, .int x3), (4, .int x4), (5, .int x5), (6, .int x6), (7, .int x7), (8, .ref a8), (9, .int s)]) (st' := [.int (lg_cmp v10 v1)]) [.lload 10, .lcmp] (by decide +kernel) rfl ?_
      refine zV_lcmp_ne (tgt := 110) (off := 9) (by decide +kernel) (by decide) (fun q => ?_) (fun q => ?_)
      · replace h := zif_neg q h
        clear q
        refine zV_pick (lo2 := [(2, .int x2), (3, .int x3), (4, .int x4), (5, .int x5), (6, .int x6), (7, .int x7), (8, .ref a8), (9, .int s)]) [1, 2, 3, 4, 5, 6, 7, 8] rfl ?_
        exact cl_meets_110 s0 D cB cI cJ cD n x2 x3 x4 x5 x6 x7 x8 s  a8 ⟨b2, b3, b4, hc5, hc6, hc7, hc8⟩ hXX h hL52 hQ
      · replace h := zif_pos q h
        clear q
        refine zV_blk (pc' := 109) (lo' := [(10, .long v1), (2, .int x2), (3, .int x3), (4, .int x4), (5, .int x5), (6, .int x6), (7, .int x7), (8, .ref a8), (9, .int s)]) (st' := [.long ((x2 + s) : Int32).toInt64]) [.iload_n 2, .iload 9, .iadd, .i2l] (by decide +kernel) rfl ?_
        obtain rfl := Option.some.inj h
        exact zV_lret rfl (by decide +kernel) (hQ _ rfl _ _ hXX)
theorem cl_meets_52L (s0 : State) (D : va_G) (cB cI cJ cD : ClassId) (n : Nat) (x2 : Int32) (x3 : Int32) (x4 : Int32) (x5 : Int32) (x6 : Int32) (x7 : Int32) (x8 : vDes) (a8 : Nat) : ∀ (k : Nat) (s : Int32) {hi0 hi hm : zHp} {nx : Nat} {Q : Option Value → zHp → zHp → Nat → Prop} (ho8 : iDes cI hi a8 x8) (_ : zX hi0 hi) {x : Int64} (_ : zloop (l_meets_52 n x2 x3 x4 x5 x6 x7 x8) k s = some x) (hQ : ∀ r : Int64, x = r → ∀ (hi' : zHp) (nx' : Nat), zX hi0 hi' → Q (some (.long r)) hi' hm nx'), zV s0 D (zty cB cI cJ cD) yX11_meets cX11_meets 12 (some .long) 4 91 0 0 52 [(2, .int x2), (3, .int x3), (4, .int x4), (5, .int x5), (6, .int x6), (7, .int x7), (8, .ref a8), (9, .int s)] [] hi hm nx Q
  | 0, s, _, _, _, _, _, _, _, _, h, _ => by cases h
  | k + 1, s, hi0, hi, hm, nx, Q, ho8, hXX, x, h, hQ => by
    obtain ⟨z, hz, h1, h2⟩ := zloop_succ h
    exact cl_meets_52 s0 D cB cI cJ cD n x2 x3 x4 x5 x6 x7 x8 a8 s ho8 hXX hz (fun s' hs hi' nx' hX hi9 => cl_meets_52L s0 D cB cI cJ cD n x2 x3 x4 x5 x6 x7 x8 a8 k s' (hi9 ▸ ho8) hX (h1 s' hs) hQ) (fun r hr => hQ r (h2 _ hr).symm)
def l_meets (n : Nat) (x0 : (Nat → Option vDes)) (x1 : Int32) (x2 : Int32) (x3 : Int32) (x4 : Int32) (x5 : Int32) (x6 : Int32) (x7 : Int32) : Option (Int64) := (k_designAt x0 x1).bind (fun v1 => zOm v1 (some (-1000000000000000)) (fun z3 => (k_isStretch x2 x3).bind (fun v5 => (if v5 = true then (k_isMoon x6 x7).bind (fun v6 => (if v6 = true then (k_hasLongestDay z3.1 x4 x5).bind (fun v14 => (if v14 = true then (zloop (l_meets_52 n x2 x3 x4 x5 x6 x7 z3) n 0) else some (-1000000000000000))) else some (-1000000000000000))) else some (-1000000000000000)))))
theorem oX11_meets : zO yX11_meets cX11_meets 12 (some .long) 7 := ⟨zT_mem 1294 (by decide +kernel) rfl, zT_mem 89 (by decide +kernel) rfl, by decide +kernel, by decide +kernel, by decide +kernel⟩
set_option maxHeartbeats 4000000 in
set_option maxRecDepth 100000 in
theorem cl_meets (s0 : State) (D : va_G) (cB cI cJ cD : ClassId) (n : Nat) (x0 : (Nat → Option vDes)) (x1 : Int32) (x2 : Int32) (x3 : Int32) (x4 : Int32) (x5 : Int32) (x6 : Int32) (x7 : Int32) (a0 : Nat) (x : Int64) (h : l_meets n x0 x1 x2 x3 x4 x5 x6 x7 = some x) {hi hm : zHp} {nx : Nat} {Q : Option Value → zHp → zHp → Nat → Prop} (ho0 : iLD cI cD hi hm a0 x0) (hQ0 : ∀ (hi' : zHp) (nx' : Nat), zX hi hi' → Q (some (.long x)) hi' hm nx') : zM s0 D (zty cB cI cJ cD) yX11_meets cX11_meets 12 (some .long) 4 91 0 0 [.ref a0, .int x1, .int x2, .int x3, .int x4, .int x5, .int x6, .int x7] hi hm nx Q := by
  have hQ : ∀ r : Int64, x = r → ∀ (hi' : zHp) (nx' : Nat), zX hi hi' → Q (some (.long r)) hi' hm nx' := fun r hr => by subst hr; exact hQ0
  clear hQ0
  have hXX : zX hi hi := zX.rf
  refine zM_of (by decide +kernel) (Nat.le_of_ble_eq_true rfl) ?_
  unfold l_meets at h
  refine zV_eq (lo2 := [(0, .ref a0), (1, .int x1), (2, .int x2), (3, .int x3), (4, .int x4), (5, .int x5), (6, .int x6), (7, .int x7)]) rfl rfl rfl rfl ?_
  refine zV_blk (pc' := 2) (lo' := [(0, .ref a0), (1, .int x1), (2, .int x2), (3, .int x3), (4, .int x4), (5, .int x5), (6, .int x6), (7, .int x7)]) (st' := [.int x1, .ref a0]) [.aload_n 0, .iload_n 1] (by decide +kernel) rfl ?_
  obtain ⟨v1, hv1, h⟩ := zbind h
  refine zV_designAt (idx := 105) (rest := []) v1 hv1 ho0 (zT_mem 603 (by decide +kernel) rfl) rfl (Nat.le_of_ble_eq_true rfl) ⟨by decide, by decide⟩ (by decide +kernel) (fun hx => ?_) (fun b2 z3 hx ho4 => ?_)
  · subst hx; replace h := zOm_none h
    refine zV_blk (pc' := 9) (lo' := [(8, .null), (0, .ref a0), (1, .int x1), (2, .int x2), (3, .int x3), (4, .int x4), (5, .int x5), (6, .int x6), (7, .int x7)]) (st' := [.null]) [.astore 8, .aload 8] (by decide +kernel) rfl ?_
    refine zV_ifnull (r := none) (tgt := 45) (off := 36) (by decide +kernel) (by decide) (fun _ => ?_) (fun _ q => by cases q)
    refine zV_ldc2 (idx := 164) (v := (-1000000000000000)) (zT_mem 681 (by decide +kernel) rfl) (by decide +kernel) ?_
    obtain rfl := Option.some.inj h
    exact zV_lret rfl (by decide +kernel) (hQ _ rfl _ _ hXX)
  · subst hx; replace h := zOm_some h
    refine zV_blk (pc' := 9) (lo' := [(8, .ref b2), (0, .ref a0), (1, .int x1), (2, .int x2), (3, .int x3), (4, .int x4), (5, .int x5), (6, .int x6), (7, .int x7)]) (st' := [.ref b2]) [.astore 8, .aload 8] (by decide +kernel) rfl ?_
    refine zV_ifnull (r := some b2) (tgt := 45) (off := 36) (by decide +kernel) (by decide) (fun q => by cases q) (fun _ _ => ?_)
    refine zV_blk (pc' := 14) (lo' := [(8, .ref b2), (0, .ref a0), (1, .int x1), (2, .int x2), (3, .int x3), (4, .int x4), (5, .int x5), (6, .int x6), (7, .int x7)]) (st' := [.int x3, .int x2]) [.iload_n 2, .iload_n 3] (by decide +kernel) rfl ?_
    obtain ⟨v5, hv5, h⟩ := zbind h
    refine zV_roS (idx := 315) (rest := []) (fun Q2 hQ2 => ck_isStretch s0 D cB cI cJ cD x2 x3  v5 hv5  hQ2) oX11_isStretch (zT_mem 1233 (by decide +kernel) rfl) (zT_mem 1234 (by decide +kernel) rfl) rfl rfl (Nat.le_of_ble_eq_true rfl) ⟨by decide, by decide⟩ (by decide +kernel) ?_
    refine zV_eq (st2 := [.int (zb v5)]) rfl rfl rfl rfl ?_
    refine zV_bif_eq (tgt := 45) (off := 28) (by decide +kernel) (by decide) (fun q => ?_) (fun q => ?_)
    · replace h := zif_neg q h
      clear q
      refine zV_ldc2 (idx := 164) (v := (-1000000000000000)) (zT_mem 681 (by decide +kernel) rfl) (by decide +kernel) ?_
      obtain rfl := Option.some.inj h
      exact zV_lret rfl (by decide +kernel) (hQ _ rfl _ _ hXX)
    · replace h := zif_pos q h
      clear q
      refine zV_blk (pc' := 24) (lo' := [(8, .ref b2), (0, .ref a0), (1, .int x1), (2, .int x2), (3, .int x3), (4, .int x4), (5, .int x5), (6, .int x6), (7, .int x7)]) (st' := [.int x7, .int x6]) [.iload 6, .iload 7] (by decide +kernel) rfl ?_
      obtain ⟨v6, hv6, h⟩ := zbind h
      refine zV_roS (idx := 342) (rest := []) (fun Q2 hQ2 => ck_isMoon s0 D cB cI cJ cD x6 x7  v6 hv6  hQ2) oX11_isMoon (zT_mem 1275 (by decide +kernel) rfl) (zT_mem 1276 (by decide +kernel) rfl) rfl rfl (Nat.le_of_ble_eq_true rfl) ⟨by decide, by decide⟩ (by decide +kernel) ?_
      refine zV_eq (st2 := [.int (zb v6)]) rfl rfl rfl rfl ?_
      refine zV_bif_eq (tgt := 45) (off := 18) (by decide +kernel) (by decide) (fun q => ?_) (fun q => ?_)
      · replace h := zif_neg q h
        clear q
        refine zV_ldc2 (idx := 164) (v := (-1000000000000000)) (zT_mem 681 (by decide +kernel) rfl) (by decide +kernel) ?_
        obtain rfl := Option.some.inj h
        exact zV_lret rfl (by decide +kernel) (hQ _ rfl _ _ hXX)
      · replace h := zif_pos q h
        clear q
        refine zV_blk (pc' := 32) (lo' := [(8, .ref b2), (0, .ref a0), (1, .int x1), (2, .int x2), (3, .int x3), (4, .int x4), (5, .int x5), (6, .int x6), (7, .int x7)]) (st' := [.ref b2]) [.aload 8] (by decide +kernel) rfl ?_
        obtain ⟨b7, b8, b9, hc10, hc11, hc12, hc13⟩ := ho4
        refine zV_get (ci := 0) (idx := 109) (k := 0) (N := 3) (fs := [.ref b7, .ref b8, .ref b9]) (v := .ref b7) (Or.inl hc10) rfl z_in0 (by decide) (zT_mem 564 (by decide +kernel) rfl) rfl (by decide +kernel) ?_
        refine zV_blk (pc' := 39) (lo' := [(8, .ref b2), (0, .ref a0), (1, .int x1), (2, .int x2), (3, .int x3), (4, .int x4), (5, .int x5), (6, .int x6), (7, .int x7)]) (st' := [.int x5, .int x4, .ref b7]) [.iload 4, .iload 5] (by decide +kernel) rfl ?_
        obtain ⟨v14, hv14, h⟩ := zbind h
        obtain ⟨b15, hc16, hb17⟩ := hc11
        refine zV_roV (idx := 318) (rest := []) (fs := [.int z3.1.1, .int z3.1.2.1, .ref b15, .int z3.1.2.2.2.1, .int z3.1.2.2.2.2.1, .int z3.1.2.2.2.2.2]) (ci := 3) (fun Q2 hQ2 => ck_hasLongestDay s0 D cB cI cJ cD z3.1 x4 x5 b7 v14 hv14 ⟨b15, hc16, hb17⟩ hQ2) oX3_hasLongestDay (Or.inl hc16) rfl (zT_mem 1236 (by decide +kernel) rfl) (zT_mem 1237 (by decide +kernel) rfl) (zT_mem 1238 (by decide +kernel) rfl) rfl rfl (Nat.le_of_ble_eq_true rfl) ⟨by decide, by decide⟩ (by decide +kernel) ?_
        refine zV_eq (st2 := [.int (zb v14)]) rfl rfl rfl rfl ?_
        refine zV_bif_ne (tgt := 49) (off := 7) (by decide +kernel) (by decide) (fun q => ?_) (fun q => ?_)
        · replace h := zif_pos q h
          clear q
          refine zV_blk (pc' := 52) (lo' := [(9, .int 0), (8, .ref b2), (0, .ref a0), (1, .int x1), (2, .int x2), (3, .int x3), (4, .int x4), (5, .int x5), (6, .int x6), (7, .int x7)]) (st' := []) [.iconst 0, .istore 9] (by decide +kernel) rfl ?_
          refine zV_pick (lo2 := [(2, .int x2), (3, .int x3), (4, .int x4), (5, .int x5), (6, .int x6), (7, .int x7), (8, .ref b2), (9, .int 0)]) [4, 5, 6, 7, 8, 9, 1, 0] rfl ?_
          exact cl_meets_52L s0 D cB cI cJ cD n x2 x3 x4 x5 x6 x7 z3 b2 n 0  ⟨b7, b8, b9, hc10, ⟨b15, hc16, hb17⟩, hc12, hc13⟩  hXX h hQ
        · replace h := zif_neg q h
          clear q
          refine zV_ldc2 (idx := 164) (v := (-1000000000000000)) (zT_mem 681 (by decide +kernel) rfl) (by decide +kernel) ?_
          obtain rfl := Option.some.inj h
          exact zV_lret rfl (by decide +kernel) (hQ _ rfl _ _ hXX)

