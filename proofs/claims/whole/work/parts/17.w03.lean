def w_truth_46 (A : Nat → Int32) (dv : Nat → Option vDes) (cs : Nat → Int32) (cv : Nat → Option vDes) (x1 : Int32) (x2 : Int32) (x3 : Int32) (x4 : Int32) (x5 : vDes) (t0 : Int32) : Option (Int32 × (Nat → Int32) × (Nat → Option vDes) × (Nat → Int32) × (Nat → Option vDes)) := (if (t0 : Int32) = (0 : Int32) then some ((-2), A, dv, cs, cv) else (k_withLength x5.2.2 x2 x3 x4).bind (fun v8 => (k_withTrueYear x5 v8).bind (fun v12 => (w_change  A dv cs cv x1 (some v12)).bind (fun v16 => some (1, v16.1, v16.2.1, v16.2.2.1, v16.2.2.2)))))
set_option maxHeartbeats 4000000 in
set_option maxRecDepth 100000 in
theorem cw_truth_46 (s0 : State) (D : va_G) (X : Nat → Prop) (cB cI cJ cD : ClassId) (al l1 l2 l3 l4 l5 : Nat) (A : Nat → Int32) (tp : Nat → Int32) (dv : Nat → Option vDes) (cs : Nat → Int32) (cv : Nat → Option vDes) (jv : Option vJoint) (bo : Option (Nat → Int32)) (hg : Option (Nat → Int64)) (lw : Option (Nat → Int64)) (sb : vSB) (x1 : Int32) (x2 : Int32) (x3 : Int32) (x4 : Int32) (x5 : vDes) (t0 : Int32) (a5 : Nat) {x : Int32 × (Nat → Int32) × (Nat → Option vDes) × (Nat → Int32) × (Nat → Option vDes)} {hi0 hi hm0 hm : zHp} {nx : Nat} {Q : Option Value → zHp → zHp → Nat → Prop} (hW : lW X cB cI cJ cD al l1 l2 l3 l4 l5 A tp dv cs cv jv bo hg lw sb hi hm) (ho5 : iDes cI hi a5 x5) (hXX : zX hi0 hi) (hFr : lFr X hm0 hm) (h : w_truth_46 A dv cs cv x1 x2 x3 x4 x5 t0 = some x) (hQ : ∀ r : Int32 × (Nat → Int32) × (Nat → Option vDes) × (Nat → Int32) × (Nat → Option vDes), x = r → ∀ (hi' hm' : zHp) (nx' : Nat), zX hi0 hi' → lW X cB cI cJ cD al l1 l2 l3 l4 l5 r.2.1 tp r.2.2.1 r.2.2.2.1 r.2.2.2.2 jv bo hg lw sb hi' hm' → lFr X hm0 hm' → Q (some (.int r.1)) hi' hm' nx') : zV s0 D (zty cB cI cJ cD) yX11_truth cX11_truth 7 (some .int) 3 69 2 8 46 [(0, .ref al), (1, .int x1), (2, .int x2), (3, .int x3), (4, .int x4), (5, .ref a5)] [.int t0] hi hm nx Q := by
  unfold w_truth_46 at h
  refine zV_blk (pc' := 50) (lo' := [(6, .int t0), (0, .ref al), (1, .int x1), (2, .int x2), (3, .int x3), (4, .int x4), (5, .ref a5)]) (st' := [.ref a5]) [.istore 6, .aload 5] (by decide +kernel) rfl ?_
  refine zV_ifnull (r := some a5) (tgt := 58) (off := 8) (by decide +kernel) (by decide) (fun q => by cases q) (fun _ _ => ?_)
  refine zV_blk (pc' := 55) (lo' := [(6, .int t0), (0, .ref al), (1, .int x1), (2, .int x2), (3, .int x3), (4, .int x4), (5, .ref a5)]) (st' := [.int t0]) [.iload 6] (by decide +kernel) rfl ?_
  refine zV_if_ne (tgt := 61) (off := 6) (by decide +kernel) (by decide) (fun q => ?_) (fun q => ?_)
  · replace h := zif_neg q h
    clear q
    refine zV_blk (pc' := 67) (lo' := [(6, .int t0), (0, .ref al), (1, .int x1), (2, .int x2), (3, .int x3), (4, .int x4), (5, .ref a5)]) (st' := [.ref a5, .ref a5, .int x1, .ref al]) [.aload_n 0, .iload_n 1, .aload 5, .aload 5] (by decide +kernel) rfl ?_
    obtain ⟨b1, b2, b3, hc4, hc5, hc6, hc7⟩ := ho5
    refine zV_get (ci := 0) (idx := 166) (k := 2) (N := 3) (fs := [.ref b1, .ref b2, .ref b3]) (v := .ref b3) (Or.inl hc4) rfl z_in0 (by decide) (zT_mem 568 (by decide +kernel) rfl) rfl (by decide +kernel) ?_
    refine zV_blk (pc' := 74) (lo' := [(6, .int t0), (0, .ref al), (1, .int x1), (2, .int x2), (3, .int x3), (4, .int x4), (5, .ref a5)]) (st' := [.int x4, .int x3, .int x2, .ref b3, .ref a5, .int x1, .ref al]) [.iload_n 2, .iload_n 3, .iload 4] (by decide +kernel) rfl ?_
    obtain ⟨v8, hv8, h⟩ := zbind h
    refine zV_alV (mc := 1) (ms := 3) (fun hi' v' => ∃ a' : Nat, v' = some (.ref a') ∧ iTrue hi' a' v8) (idx := 193) (rest := [.ref a5, .int x1, .ref al]) (fs := [.int x5.2.2.1, .int x5.2.2.2.1, .int x5.2.2.2.2.1, .int x5.2.2.2.2.2.1, .int x5.2.2.2.2.2.2]) (ci := 10) (fun Q2 hQ2 => ck_withLength s0 D cB cI cJ cD x5.2.2 x2 x3 x4 b3 v8 hv8 hc7 (fun a' hi' nx' hX hr => hQ2 _ _ _ hX ⟨a', rfl, hr⟩)) oX10_withLength (Or.inl hc7) rfl (zT_mem 753 (by decide +kernel) rfl) (zT_mem 509 (by decide +kernel) rfl) (zT_mem 510 (by decide +kernel) rfl) rfl rfl (Nat.le_of_ble_eq_true rfl) ⟨by decide, by decide⟩ (by decide +kernel) ?_
    rintro _ hi2 nx11 hX ⟨b9, rfl, ho10⟩
    replace hc4 := hX _ _ hc4
    replace hc5 := hc5.mono hX
    replace hc6 := hc6.mono hX
    replace hc7 := hX _ _ hc7
    replace hW := hW.mono hX
    replace hXX := hXX.tr hX; clear hX
    refine zV_eq (st2 := [.ref b9, .ref a5, .int x1, .ref al]) rfl rfl rfl rfl ?_
    obtain ⟨v12, hv12, h⟩ := zbind h
    refine zV_alV (mc := 0) (ms := 0) (fun hi' v' => ∃ a' : Nat, v' = some (.ref a') ∧ iDes cI hi' a' v12) (idx := 197) (rest := [.int x1, .ref al]) (fs := [.ref b1, .ref b2, .ref b3]) (ci := 0) (fun Q2 hQ2 => ck_withTrueYear s0 D cB cI cJ cD x5 v8 a5 b9 v12 hv12 ⟨b1, b2, b3, hc4, hc5, hc6, hc7⟩ ho10 (fun a' hi' nx' hX hr => hQ2 _ _ _ hX ⟨a', rfl, hr⟩)) oX0_withTrueYear (Or.inl hc4) rfl (zT_mem 754 (by decide +kernel) rfl) (zT_mem 755 (by decide +kernel) rfl) (zT_mem 756 (by decide +kernel) rfl) rfl rfl (Nat.le_of_ble_eq_true rfl) ⟨by decide, by decide⟩ (by decide +kernel) ?_
    rintro _ hi2 nx15 hX ⟨b13, rfl, ho14⟩
    replace hc4 := hX _ _ hc4
    replace hc5 := hc5.mono hX
    replace hc6 := hc6.mono hX
    replace hc7 := hX _ _ hc7
    replace hW := hW.mono hX
    replace hXX := hXX.tr hX; clear hX
    refine zV_eq (st2 := [.ref b13, .int x1, .ref al]) rfl rfl rfl rfl ?_
    obtain ⟨v16, hv16, h⟩ := zbind h
    refine l_call (mc := 0) (ms := 0) (idx := 91) (As := [.int x1, .ref b13]) (rest := []) hW (fun Q2 hQ2 => cw_change s0 D X cB cI cJ cD al l1 l2 l3 l4 l5 A tp dv cs cv jv bo hg lw sb x1 (some v12) (some b13) v16 hv16 hW (Or.inr ⟨_, _, rfl, rfl, ho14⟩) hQ2) oX11_change rfl (zT_mem 576 (by decide +kernel) rfl) (zT_mem 578 (by decide +kernel) rfl) (zT_mem 10 (by decide +kernel) rfl) rfl rfl (Nat.le_of_ble_eq_true rfl) ⟨by decide, by decide⟩ (by decide +kernel) ?_
    intro hi2 hm2 nx17 hX hW2 hFr2
    replace hc4 := hX _ _ hc4
    replace hc5 := hc5.mono hX
    replace hc6 := hc6.mono hX
    replace hc7 := hX _ _ hc7
    clear hW; have hW := hW2; clear hW2
    replace hXX := hXX.tr hX; clear hX
    replace hFr := hFr.tr hFr2; clear hFr2
    refine zV_eq (st2 := []) rfl rfl rfl rfl ?_
    refine zV_blk (pc' := 84) (lo' := [(6, .int t0), (0, .ref al), (1, .int x1), (2, .int x2), (3, .int x3), (4, .int x4), (5, .ref a5)]) (st' := [.int 1]) [.iconst 1] (by decide +kernel) rfl ?_
    obtain rfl := Option.some.inj h
    exact zV_iret rfl (by decide +kernel) (hQ _ rfl _ _ _ hXX hW hFr)
  · replace h := zif_pos q h
    clear q
    refine zV_less (mc' := 0) (ms' := 0) (by decide) (by decide) ?_
    refine zV_blk (pc' := 60) (lo' := [(6, .int t0), (0, .ref al), (1, .int x1), (2, .int x2), (3, .int x3), (4, .int x4), (5, .ref a5)]) (st' := [.int (-2)]) [.bipush (-2)] (by decide +kernel) rfl ?_
    obtain rfl := Option.some.inj h
    exact zV_iret rfl (by decide +kernel) (hQ _ rfl _ _ _ hXX hW hFr)
def w_truth_45 (A : Nat → Int32) (dv : Nat → Option vDes) (cs : Nat → Int32) (cv : Nat → Option vDes) (x1 : Int32) (x2 : Int32) (x3 : Int32) (x4 : Int32) (x5 : vDes) : Option (Int32 × (Nat → Int32) × (Nat → Option vDes) × (Nat → Int32) × (Nat → Option vDes)) := (w_truth_46 A dv cs cv x1 x2 x3 x4 x5 0)
set_option maxHeartbeats 4000000 in
set_option maxRecDepth 100000 in
theorem cw_truth_45 (s0 : State) (D : va_G) (X : Nat → Prop) (cB cI cJ cD : ClassId) (al l1 l2 l3 l4 l5 : Nat) (A : Nat → Int32) (tp : Nat → Int32) (dv : Nat → Option vDes) (cs : Nat → Int32) (cv : Nat → Option vDes) (jv : Option vJoint) (bo : Option (Nat → Int32)) (hg : Option (Nat → Int64)) (lw : Option (Nat → Int64)) (sb : vSB) (x1 : Int32) (x2 : Int32) (x3 : Int32) (x4 : Int32) (x5 : vDes) (a5 : Nat) {x : Int32 × (Nat → Int32) × (Nat → Option vDes) × (Nat → Int32) × (Nat → Option vDes)} {hi0 hi hm0 hm : zHp} {nx : Nat} {Q : Option Value → zHp → zHp → Nat → Prop} (hW : lW X cB cI cJ cD al l1 l2 l3 l4 l5 A tp dv cs cv jv bo hg lw sb hi hm) (ho5 : iDes cI hi a5 x5) (hXX : zX hi0 hi) (hFr : lFr X hm0 hm) (h : w_truth_45 A dv cs cv x1 x2 x3 x4 x5 = some x) (hQ : ∀ r : Int32 × (Nat → Int32) × (Nat → Option vDes) × (Nat → Int32) × (Nat → Option vDes), x = r → ∀ (hi' hm' : zHp) (nx' : Nat), zX hi0 hi' → lW X cB cI cJ cD al l1 l2 l3 l4 l5 r.2.1 tp r.2.2.1 r.2.2.2.1 r.2.2.2.2 jv bo hg lw sb hi' hm' → lFr X hm0 hm' → Q (some (.int r.1)) hi' hm' nx') : zV s0 D (zty cB cI cJ cD) yX11_truth cX11_truth 7 (some .int) 3 69 2 8 45 [(0, .ref al), (1, .int x1), (2, .int x2), (3, .int x3), (4, .int x4), (5, .ref a5)] [] hi hm nx Q := by
  unfold w_truth_45 at h
  refine zV_blk (pc' := 46) (lo' := [(0, .ref al), (1, .int x1), (2, .int x2), (3, .int x3), (4, .int x4), (5, .ref a5)]) (st' := [.int 0]) [.iconst 0] (by decide +kernel) rfl ?_
  refine zV_pick (lo2 := [(0, .ref al), (1, .int x1), (2, .int x2), (3, .int x3), (4, .int x4), (5, .ref a5)]) [0, 1, 2, 3, 4, 5] rfl ?_
  exact cw_truth_46 s0 D X cB cI cJ cD al l1 l2 l3 l4 l5 A tp dv cs cv jv bo hg lw sb x1 x2 x3 x4 x5 0 a5 hW ho5 hXX hFr h hQ
def w_truth_46N5 (A : Nat → Int32) (dv : Nat → Option vDes) (cs : Nat → Int32) (cv : Nat → Option vDes) (x1 : Int32) (x2 : Int32) (x3 : Int32) (x4 : Int32) (t0 : Int32) : Option (Int32 × (Nat → Int32) × (Nat → Option vDes) × (Nat → Int32) × (Nat → Option vDes)) := some ((-2), A, dv, cs, cv)
set_option maxHeartbeats 4000000 in
set_option maxRecDepth 100000 in
theorem cw_truth_46N5 (s0 : State) (D : va_G) (X : Nat → Prop) (cB cI cJ cD : ClassId) (al l1 l2 l3 l4 l5 : Nat) (A : Nat → Int32) (tp : Nat → Int32) (dv : Nat → Option vDes) (cs : Nat → Int32) (cv : Nat → Option vDes) (jv : Option vJoint) (bo : Option (Nat → Int32)) (hg : Option (Nat → Int64)) (lw : Option (Nat → Int64)) (sb : vSB) (x1 : Int32) (x2 : Int32) (x3 : Int32) (x4 : Int32) (t0 : Int32) {x : Int32 × (Nat → Int32) × (Nat → Option vDes) × (Nat → Int32) × (Nat → Option vDes)} {hi0 hi hm0 hm : zHp} {nx : Nat} {Q : Option Value → zHp → zHp → Nat → Prop} (hW : lW X cB cI cJ cD al l1 l2 l3 l4 l5 A tp dv cs cv jv bo hg lw sb hi hm) (hXX : zX hi0 hi) (hFr : lFr X hm0 hm) (h : w_truth_46N5 A dv cs cv x1 x2 x3 x4 t0 = some x) (hQ : ∀ r : Int32 × (Nat → Int32) × (Nat → Option vDes) × (Nat → Int32) × (Nat → Option vDes), x = r → ∀ (hi' hm' : zHp) (nx' : Nat), zX hi0 hi' → lW X cB cI cJ cD al l1 l2 l3 l4 l5 r.2.1 tp r.2.2.1 r.2.2.2.1 r.2.2.2.2 jv bo hg lw sb hi' hm' → lFr X hm0 hm' → Q (some (.int r.1)) hi' hm' nx') : zV s0 D (zty cB cI cJ cD) yX11_truth cX11_truth 7 (some .int) 3 69 2 8 46 [(0, .ref al), (1, .int x1), (2, .int x2), (3, .int x3), (4, .int x4), (5, .null)] [.int t0] hi hm nx Q := by
  unfold w_truth_46N5 at h
  refine zV_blk (pc' := 50) (lo' := [(6, .int t0), (0, .ref al), (1, .int x1), (2, .int x2), (3, .int x3), (4, .int x4), (5, .null)]) (st' := [.null]) [.istore 6, .aload 5] (by decide +kernel) rfl ?_
  refine zV_ifnull (r := none) (tgt := 58) (off := 8) (by decide +kernel) (by decide) (fun _ => ?_) (fun _ q => by cases q)
  refine zV_less (mc' := 0) (ms' := 0) (by decide) (by decide) ?_
  refine zV_blk (pc' := 60) (lo' := [(6, .int t0), (0, .ref al), (1, .int x1), (2, .int x2), (3, .int x3), (4, .int x4), (5, .null)]) (st' := [.int (-2)]) [.bipush (-2)] (by decide +kernel) rfl ?_
  obtain rfl := Option.some.inj h
  exact zV_iret rfl (by decide +kernel) (hQ _ rfl _ _ _ hXX hW hFr)
def w_truth_45N5 (A : Nat → Int32) (dv : Nat → Option vDes) (cs : Nat → Int32) (cv : Nat → Option vDes) (x1 : Int32) (x2 : Int32) (x3 : Int32) (x4 : Int32) : Option (Int32 × (Nat → Int32) × (Nat → Option vDes) × (Nat → Int32) × (Nat → Option vDes)) := (w_truth_46N5 A dv cs cv x1 x2 x3 x4 0)
set_option maxHeartbeats 4000000 in
set_option maxRecDepth 100000 in
theorem cw_truth_45N5 (s0 : State) (D : va_G) (X : Nat → Prop) (cB cI cJ cD : ClassId) (al l1 l2 l3 l4 l5 : Nat) (A : Nat → Int32) (tp : Nat → Int32) (dv : Nat → Option vDes) (cs : Nat → Int32) (cv : Nat → Option vDes) (jv : Option vJoint) (bo : Option (Nat → Int32)) (hg : Option (Nat → Int64)) (lw : Option (Nat → Int64)) (sb : vSB) (x1 : Int32) (x2 : Int32) (x3 : Int32) (x4 : Int32) {x : Int32 × (Nat → Int32) × (Nat → Option vDes) × (Nat → Int32) × (Nat → Option vDes)} {hi0 hi hm0 hm : zHp} {nx : Nat} {Q : Option Value → zHp → zHp → Nat → Prop} (hW : lW X cB cI cJ cD al l1 l2 l3 l4 l5 A tp dv cs cv jv bo hg lw sb hi hm) (hXX : zX hi0 hi) (hFr : lFr X hm0 hm) (h : w_truth_45N5 A dv cs cv x1 x2 x3 x4 = some x) (hQ : ∀ r : Int32 × (Nat → Int32) × (Nat → Option vDes) × (Nat → Int32) × (Nat → Option vDes), x = r → ∀ (hi' hm' : zHp) (nx' : Nat), zX hi0 hi' → lW X cB cI cJ cD al l1 l2 l3 l4 l5 r.2.1 tp r.2.2.1 r.2.2.2.1 r.2.2.2.2 jv bo hg lw sb hi' hm' → lFr X hm0 hm' → Q (some (.int r.1)) hi' hm' nx') : zV s0 D (zty cB cI cJ cD) yX11_truth cX11_truth 7 (some .int) 3 69 2 8 45 [(0, .ref al), (1, .int x1), (2, .int x2), (3, .int x3), (4, .int x4), (5, .null)] [] hi hm nx Q := by
  unfold w_truth_45N5 at h
  refine zV_blk (pc' := 46) (lo' := [(0, .ref al), (1, .int x1), (2, .int x2), (3, .int x3), (4, .int x4), (5, .null)]) (st' := [.int 0]) [.iconst 0] (by decide +kernel) rfl ?_
  refine zV_pick (lo2 := [(0, .ref al), (1, .int x1), (2, .int x2), (3, .int x3), (4, .int x4), (5, .null)]) [0, 1, 2, 3, 4, 5] rfl ?_
  exact cw_truth_46N5 s0 D X cB cI cJ cD al l1 l2 l3 l4 l5 A tp dv cs cv jv bo hg lw sb x1 x2 x3 x4 0  hW  hXX hFr h hQ
def w_truth (A : Nat → Int32) (dv : Nat → Option vDes) (cs : Nat → Int32) (cv : Nat → Option vDes) (x1 : Int32) (x2 : Int32) (x3 : Int32) (x4 : Int32) : Option (Int32 × (Nat → Int32) × (Nat → Option vDes) × (Nat → Int32) × (Nat → Option vDes)) := (k_designAt dv x1).bind (fun v1 => zOm (v1) ((if (x2 : Int32) < (0 : Int32) then (w_truth_45N5 A dv cs cv x1 x2 x3 x4 ) else (if (999 : Int32) < (x2 : Int32) then (w_truth_45N5 A dv cs cv x1 x2 x3 x4 ) else (if (x4 : Int32) < (1 : Int32) then (w_truth_45N5 A dv cs cv x1 x2 x3 x4 ) else (if (1000000 : Int32) < (x4 : Int32) then (w_truth_45N5 A dv cs cv x1 x2 x3 x4 ) else (if (x3 : Int32) < (0 : Int32) then (w_truth_45N5 A dv cs cv x1 x2 x3 x4 ) else (if (x4 : Int32) ≤ (x3 : Int32) then (w_truth_45N5 A dv cs cv x1 x2 x3 x4 ) else (w_truth_46N5 A dv cs cv x1 x2 x3 x4 1)))))))) (fun z3 => (if (x2 : Int32) < (0 : Int32) then (w_truth_45 A dv cs cv x1 x2 x3 x4 z3 ) else (if (999 : Int32) < (x2 : Int32) then (w_truth_45 A dv cs cv x1 x2 x3 x4 z3 ) else (if (x4 : Int32) < (1 : Int32) then (w_truth_45 A dv cs cv x1 x2 x3 x4 z3 ) else (if (1000000 : Int32) < (x4 : Int32) then (w_truth_45 A dv cs cv x1 x2 x3 x4 z3 ) else (if (x3 : Int32) < (0 : Int32) then (w_truth_45 A dv cs cv x1 x2 x3 x4 z3 ) else (if (x4 : Int32) ≤ (x3 : Int32) then (w_truth_45 A dv cs cv x1 x2 x3 x4 z3 ) else (w_truth_46 A dv cs cv x1 x2 x3 x4 z3 1)))))))))
theorem oX11_truth : zO yX11_truth cX11_truth 7 (some .int) 4 := ⟨zT_mem 751 (by decide +kernel) rfl, zT_mem 89 (by decide +kernel) rfl, by decide +kernel, by decide +kernel, by decide +kernel⟩
set_option maxHeartbeats 4000000 in
set_option maxRecDepth 100000 in
theorem cw_truth (s0 : State) (D : va_G) (X : Nat → Prop) (cB cI cJ cD : ClassId) (al l1 l2 l3 l4 l5 : Nat) (A : Nat → Int32) (tp : Nat → Int32) (dv : Nat → Option vDes) (cs : Nat → Int32) (cv : Nat → Option vDes) (jv : Option vJoint) (bo : Option (Nat → Int32)) (hg : Option (Nat → Int64)) (lw : Option (Nat → Int64)) (sb : vSB) (x1 : Int32) (x2 : Int32) (x3 : Int32) (x4 : Int32) (x : Int32 × (Nat → Int32) × (Nat → Option vDes) × (Nat → Int32) × (Nat → Option vDes)) (h : w_truth A dv cs cv x1 x2 x3 x4 = some x) {hi hm : zHp} {nx : Nat} {Q : Option Value → zHp → zHp → Nat → Prop} (hW : lW X cB cI cJ cD al l1 l2 l3 l4 l5 A tp dv cs cv jv bo hg lw sb hi hm) (hQ0 : ∀ (hi' hm' : zHp) (nx' : Nat), zX hi hi' → lW X cB cI cJ cD al l1 l2 l3 l4 l5 x.2.1 tp x.2.2.1 x.2.2.2.1 x.2.2.2.2 jv bo hg lw sb hi' hm' → lFr X hm hm' → Q (some (.int x.1)) hi' hm' nx') : zM s0 D (zty cB cI cJ cD) yX11_truth cX11_truth 7 (some .int) 3 69 2 8 [.ref al, .int x1, .int x2, .int x3, .int x4] hi hm nx Q := by
  have hQ : ∀ r : Int32 × (Nat → Int32) × (Nat → Option vDes) × (Nat → Int32) × (Nat → Option vDes), x = r → ∀ (hi' hm' : zHp) (nx' : Nat), zX hi hi' → lW X cB cI cJ cD al l1 l2 l3 l4 l5 r.2.1 tp r.2.2.1 r.2.2.2.1 r.2.2.2.2 jv bo hg lw sb hi' hm' → lFr X hm hm' → Q (some (.int r.1)) hi' hm' nx' := fun r hr => by subst hr; exact hQ0
  clear hQ0
  have hXX : zX hi hi := zX.rf
  have hFr : lFr X hm hm := lFr.rf
  refine zM_of (by decide +kernel) (Nat.le_of_ble_eq_true rfl) ?_
  unfold w_truth at h
  refine zV_eq (lo2 := [(0, .ref al), (1, .int x1), (2, .int x2), (3, .int x3), (4, .int x4)]) rfl rfl rfl rfl ?_
  refine zV_blk (pc' := 2) (lo' := [(0, .ref al), (1, .int x1), (2, .int x2), (3, .int x3), (4, .int x4)]) (st' := [.int x1, .ref al]) [.aload_n 0, .iload_n 1] (by decide +kernel) rfl ?_
  obtain ⟨v1, hv1, h⟩ := zbind h
  refine zV_designAt (idx := 105) (rest := []) v1 hv1 hW.ld (zT_mem 603 (by decide +kernel) rfl) rfl (Nat.le_of_ble_eq_true rfl) ⟨by decide, by decide⟩ (by decide +kernel) (fun hx => ?_) (fun b2 z3 hx ho4 => ?_)
  · rw [hx] at h; replace h := zOm_none h
    refine zV_blk (pc' := 8) (lo' := [(5, .null), (0, .ref al), (1, .int x1), (2, .int x2), (3, .int x3), (4, .int x4)]) (st' := [.int x2]) [.astore 5, .iload_n 2] (by decide +kernel) rfl ?_
    refine zV_if_lt (tgt := 45) (off := 37) (by decide +kernel) (by decide) (fun q => ?_) (fun q => ?_)
    · replace h := zif_pos q h
      clear q
      refine zV_pick (lo2 := [(0, .ref al), (1, .int x1), (2, .int x2), (3, .int x3), (4, .int x4), (5, .null)]) [1, 2, 3, 4, 5, 0] rfl ?_
      exact cw_truth_45N5 s0 D X cB cI cJ cD al l1 l2 l3 l4 l5 A tp dv cs cv jv bo hg lw sb x1 x2 x3 x4   hW  hXX hFr h hQ
    · replace h := zif_neg q h
      clear q
      refine zV_blk (pc' := 15) (lo' := [(5, .null), (0, .ref al), (1, .int x1), (2, .int x2), (3, .int x3), (4, .int x4)]) (st' := [.int 999, .int x2]) [.iload_n 2, .sipush 999] (by decide +kernel) rfl ?_
      refine zV_icmp_gt (tgt := 45) (off := 30) (by decide +kernel) (by decide) (fun q => ?_) (fun q => ?_)
      · replace h := zif_pos q h
        clear q
        refine zV_pick (lo2 := [(0, .ref al), (1, .int x1), (2, .int x2), (3, .int x3), (4, .int x4), (5, .null)]) [1, 2, 3, 4, 5, 0] rfl ?_
        exact cw_truth_45N5 s0 D X cB cI cJ cD al l1 l2 l3 l4 l5 A tp dv cs cv jv bo hg lw sb x1 x2 x3 x4   hW  hXX hFr h hQ
      · replace h := zif_neg q h
        clear q
        refine zV_blk (pc' := 21) (lo' := [(5, .null), (0, .ref al), (1, .int x1), (2, .int x2), (3, .int x3), (4, .int x4)]) (st' := [.int 1, .int x4]) [.iload 4, .iconst 1] (by decide +kernel) rfl ?_
        refine zV_icmp_lt (tgt := 45) (off := 24) (by decide +kernel) (by decide) (fun q => ?_) (fun q => ?_)
        · replace h := zif_pos q h
          clear q
          refine zV_pick (lo2 := [(0, .ref al), (1, .int x1), (2, .int x2), (3, .int x3), (4, .int x4), (5, .null)]) [1, 2, 3, 4, 5, 0] rfl ?_
          exact cw_truth_45N5 s0 D X cB cI cJ cD al l1 l2 l3 l4 l5 A tp dv cs cv jv bo hg lw sb x1 x2 x3 x4   hW  hXX hFr h hQ
        · replace h := zif_neg q h
          clear q
          refine zV_blk (pc' := 26) (lo' := [(5, .null), (0, .ref al), (1, .int x1), (2, .int x2), (3, .int x3), (4, .int x4)]) (st' := [.int x4]) [.iload 4] (by decide +kernel) rfl ?_
          refine zV_ldc (idx := 192) (v := 1000000) (zT_mem 752 (by decide +kernel) rfl) (by decide +kernel) ?_
          refine zV_icmp_gt (tgt := 45) (off := 17) (by decide +kernel) (by decide) (fun q => ?_) (fun q => ?_)
          · replace h := zif_pos q h
            clear q
            refine zV_pick (lo2 := [(0, .ref al), (1, .int x1), (2, .int x2), (3, .int x3), (4, .int x4), (5, .null)]) [1, 2, 3, 4, 5, 0] rfl ?_
            exact cw_truth_45N5 s0 D X cB cI cJ cD al l1 l2 l3 l4 l5 A tp dv cs cv jv bo hg lw sb x1 x2 x3 x4   hW  hXX hFr h hQ
          · replace h := zif_neg q h
            clear q
            refine zV_blk (pc' := 32) (lo' := [(5, .null), (0, .ref al), (1, .int x1), (2, .int x2), (3, .int x3), (4, .int x4)]) (st' := [.int x3]) [.iload_n 3] (by decide +kernel) rfl ?_
            refine zV_if_lt (tgt := 45) (off := 13) (by decide +kernel) (by decide) (fun q => ?_) (fun q => ?_)
            · replace h := zif_pos q h
              clear q
              refine zV_pick (lo2 := [(0, .ref al), (1, .int x1), (2, .int x2), (3, .int x3), (4, .int x4), (5, .null)]) [1, 2, 3, 4, 5, 0] rfl ?_
              exact cw_truth_45N5 s0 D X cB cI cJ cD al l1 l2 l3 l4 l5 A tp dv cs cv jv bo hg lw sb x1 x2 x3 x4   hW  hXX hFr h hQ
            · replace h := zif_neg q h
              clear q
              refine zV_blk (pc' := 38) (lo' := [(5, .null), (0, .ref al), (1, .int x1), (2, .int x2), (3, .int x3), (4, .int x4)]) (st' := [.int x4, .int x3]) [.iload_n 3, .iload 4] (by decide +kernel) rfl ?_
              refine zV_icmp_ge (tgt := 45) (off := 7) (by decide +kernel) (by decide) (fun q => ?_) (fun q => ?_)
              · replace h := zif_pos q h
                clear q
                refine zV_pick (lo2 := [(0, .ref al), (1, .int x1), (2, .int x2), (3, .int x3), (4, .int x4), (5, .null)]) [1, 2, 3, 4, 5, 0] rfl ?_
                exact cw_truth_45N5 s0 D X cB cI cJ cD al l1 l2 l3 l4 l5 A tp dv cs cv jv bo hg lw sb x1 x2 x3 x4   hW  hXX hFr h hQ
              · replace h := zif_neg q h
                clear q
                refine zV_blk (pc' := 42) (lo' := [(5, .null), (0, .ref al), (1, .int x1), (2, .int x2), (3, .int x3), (4, .int x4)]) (st' := [.int 1]) [.iconst 1] (by decide +kernel) rfl ?_
                refine zV_goto (tgt := 46) (off := 4) (by decide +kernel) (by decide) ?_
                refine zV_pick (lo2 := [(0, .ref al), (1, .int x1), (2, .int x2), (3, .int x3), (4, .int x4), (5, .null)]) [1, 2, 3, 4, 5, 0] rfl ?_
                exact cw_truth_46N5 s0 D X cB cI cJ cD al l1 l2 l3 l4 l5 A tp dv cs cv jv bo hg lw sb x1 x2 x3 x4 1  hW  hXX hFr h hQ
  · rw [hx] at h; replace h := zOm_some h
    refine zV_blk (pc' := 8) (lo' := [(5, .ref b2), (0, .ref al), (1, .int x1), (2, .int x2), (3, .int x3), (4, .int x4)]) (st' := [.int x2]) [.astore 5, .iload_n 2] (by decide +kernel) rfl ?_
    refine zV_if_lt (tgt := 45) (off := 37) (by decide +kernel) (by decide) (fun q => ?_) (fun q => ?_)
    · replace h := zif_pos q h
      clear q
      refine zV_pick (lo2 := [(0, .ref al), (1, .int x1), (2, .int x2), (3, .int x3), (4, .int x4), (5, .ref b2)]) [1, 2, 3, 4, 5, 0] rfl ?_
      exact cw_truth_45 s0 D X cB cI cJ cD al l1 l2 l3 l4 l5 A tp dv cs cv jv bo hg lw sb x1 x2 x3 x4 z3  b2 hW ho4 hXX hFr h hQ
    · replace h := zif_neg q h
      clear q
      refine zV_blk (pc' := 15) (lo' := [(5, .ref b2), (0, .ref al), (1, .int x1), (2, .int x2), (3, .int x3), (4, .int x4)]) (st' := [.int 999, .int x2]) [.iload_n 2, .sipush 999] (by decide +kernel) rfl ?_
      refine zV_icmp_gt (tgt := 45) (off := 30) (by decide +kernel) (by decide) (fun q => ?_) (fun q => ?_)
      · replace h := zif_pos q h
        clear q
        refine zV_pick (lo2 := [(0, .ref al), (1, .int x1), (2, .int x2), (3, .int x3), (4, .int x4), (5, .ref b2)]) [1, 2, 3, 4, 5, 0] rfl ?_
        exact cw_truth_45 s0 D X cB cI cJ cD al l1 l2 l3 l4 l5 A tp dv cs cv jv bo hg lw sb x1 x2 x3 x4 z3  b2 hW ho4 hXX hFr h hQ
      · replace h := zif_neg q h
        clear q
        refine zV_blk (pc' := 21) (lo' := [(5, .ref b2), (0, .ref al), (1, .int x1), (2, .int x2), (3, .int x3), (4, .int x4)]) (st' := [.int 1, .int x4]) [.iload 4, .iconst 1] (by decide +kernel) rfl ?_
        refine zV_icmp_lt (tgt := 45) (off := 24) (by decide +kernel) (by decide) (fun q => ?_) (fun q => ?_)
        · replace h := zif_pos q h
          clear q
          refine zV_pick (lo2 := [(0, .ref al), (1, .int x1), (2, .int x2), (3, .int x3), (4, .int x4), (5, .ref b2)]) [1, 2, 3, 4, 5, 0] rfl ?_
          exact cw_truth_45 s0 D X cB cI cJ cD al l1 l2 l3 l4 l5 A tp dv cs cv jv bo hg lw sb x1 x2 x3 x4 z3  b2 hW ho4 hXX hFr h hQ
        · replace h := zif_neg q h
          clear q
          refine zV_blk (pc' := 26) (lo' := [(5, .ref b2), (0, .ref al), (1, .int x1), (2, .int x2), (3, .int x3), (4, .int x4)]) (st' := [.int x4]) [.iload 4] (by decide +kernel) rfl ?_
          refine zV_ldc (idx := 192) (v := 1000000) (zT_mem 752 (by decide +kernel) rfl) (by decide +kernel) ?_
          refine zV_icmp_gt (tgt := 45) (off := 17) (by decide +kernel) (by decide) (fun q => ?_) (fun q => ?_)
          · replace h := zif_pos q h
            clear q
            refine zV_pick (lo2 := [(0, .ref al), (1, .int x1), (2, .int x2), (3, .int x3), (4, .int x4), (5, .ref b2)]) [1, 2, 3, 4, 5, 0] rfl ?_
            exact cw_truth_45 s0 D X cB cI cJ cD al l1 l2 l3 l4 l5 A tp dv cs cv jv bo hg lw sb x1 x2 x3 x4 z3  b2 hW ho4 hXX hFr h hQ
          · replace h := zif_neg q h
            clear q
            refine zV_blk (pc' := 32) (lo' := [(5, .ref b2), (0, .ref al), (1, .int x1), (2, .int x2), (3, .int x3), (4, .int x4)]) (st' := [.int x3]) [.iload_n 3] (by decide +kernel) rfl ?_
            refine zV_if_lt (tgt := 45) (off := 13) (by decide +kernel) (by decide) (fun q => ?_) (fun q => ?_)
            · replace h := zif_pos q h
              clear q
              refine zV_pick (lo2 := [(0, .ref al), (1, .int x1), (2, .int x2), (3, .int x3), (4, .int x4), (5, .ref b2)]) [1, 2, 3, 4, 5, 0] rfl ?_
              exact cw_truth_45 s0 D X cB cI cJ cD al l1 l2 l3 l4 l5 A tp dv cs cv jv bo hg lw sb x1 x2 x3 x4 z3  b2 hW ho4 hXX hFr h hQ
            · replace h := zif_neg q h
              clear q
              refine zV_blk (pc' := 38) (lo' := [(5, .ref b2), (0, .ref al), (1, .int x1), (2, .int x2), (3, .int x3), (4, .int x4)]) (st' := [.int x4, .int x3]) [.iload_n 3, .iload 4] (by decide +kernel) rfl ?_
              refine zV_icmp_ge (tgt := 45) (off := 7) (by decide +kernel) (by decide) (fun q => ?_) (fun q => ?_)
              · replace h := zif_pos q h
                clear q
                refine zV_pick (lo2 := [(0, .ref al), (1, .int x1), (2, .int x2), (3, .int x3), (4, .int x4), (5, .ref b2)]) [1, 2, 3, 4, 5, 0] rfl ?_
                exact cw_truth_45 s0 D X cB cI cJ cD al l1 l2 l3 l4 l5 A tp dv cs cv jv bo hg lw sb x1 x2 x3 x4 z3  b2 hW ho4 hXX hFr h hQ
              · replace h := zif_neg q h
                clear q
                refine zV_blk (pc' := 42) (lo' := [(5, .ref b2), (0, .ref al), (1, .int x1), (2, .int x2), (3, .int x3), (4, .int x4)]) (st' := [.int 1]) [.iconst 1] (by decide +kernel) rfl ?_
                refine zV_goto (tgt := 46) (off := 4) (by decide +kernel) (by decide) ?_
                refine zV_pick (lo2 := [(0, .ref al), (1, .int x1), (2, .int x2), (3, .int x3), (4, .int x4), (5, .ref b2)]) [1, 2, 3, 4, 5, 0] rfl ?_
                exact cw_truth_46 s0 D X cB cI cJ cD al l1 l2 l3 l4 l5 A tp dv cs cv jv bo hg lw sb x1 x2 x3 x4 z3 1 b2 hW ho4 hXX hFr h hQ

