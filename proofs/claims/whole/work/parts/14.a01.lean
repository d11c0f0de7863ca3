def zOp {α : Type} (P : Nat → α → Prop) (v : Option Value) (x : Option α) : Prop := (v = some .null ∧ x = none) ∨ ∃ (a : Nat) (z : α), v = some (.ref a) ∧ x = some z ∧ P a z

def k_newFra (x1 : Int64) (x3 : Int64) : Option (vFra) := some (x1, x3)
theorem oX2_init : zO yX2_init cX2_init 5 none 2 := ⟨zT_mem 702 (by decide +kernel) rfl, zT_mem 107 (by decide +kernel) rfl, by decide +kernel, by decide +kernel, by decide +kernel⟩
set_option maxHeartbeats 4000000 in
set_option maxRecDepth 100000 in
theorem ck_newFra (s0 : State) (D : va_G) (cB cI cJ cD : ClassId) (x1 : Int64) (x3 : Int64) (a0 : Nat) (x : vFra) (h : k_newFra x1 x3 = some x) {hi hm : zHp} {nx : Nat} {Q : Option Value → zHp → zHp → Nat → Prop} (hS : hm a0 = some (.inr (2, [.long 0, .long 0]))) (hQ0 : ∀ hm', hm' a0 = some (.inr (2, [.long x.1, .long x.2])) → zO1 a0 hm hm' → Q none hi hm' nx) : zM s0 D (zty cB cI cJ cD) yX2_init cX2_init 5 none 1 20 0 0 [.ref a0, .long x1, .long x3] hi hm nx Q := by
  have hO : zO1 a0 hm hm := zO1.rf
  refine zM_of (by decide +kernel) (Nat.le_of_ble_eq_true rfl) ?_
  unfold k_newFra at h
  refine zV_eq (lo2 := [(0, .ref a0), (1, .long x1), (3, .long x3)]) rfl rfl rfl rfl ?_
  refine zV_blk (pc' := 1) (lo' := [(0, .ref a0), (1, .long x1), (3, .long x3)]) (st' := [.ref a0]) [.aload_n 0] (by decide +kernel) rfl ?_
  refine zV_objInit (idx := 3) (zT_mem 703 (by decide +kernel) rfl) (zT_mem 119 (by decide +kernel) rfl) (zT_mem 120 (by decide +kernel) rfl) (by decide) (Nat.le_of_ble_eq_true rfl) (by decide +kernel) ?_
  refine zV_blk (pc' := 6) (lo' := [(0, .ref a0), (1, .long x1), (3, .long x3)]) (st' := [.long x1, .ref a0]) [.aload_n 0, .lload_n 1] (by decide +kernel) rfl ?_
  refine zV_putS (ci := 2) (idx := 9) (k := 0) (v := .long x1) (fs' := [.long x1, .long 0]) tyX2 hS rfl z_in2 tyX2_ok nmX2 (by decide) (zT_mem 704 (by decide +kernel) rfl) (fun _ => ⟨rfl, rfl⟩) rfl rfl (Nat.le_of_ble_eq_true rfl) rfl (by decide +kernel) (fun hm2 hS2 hO2 => ?_)
  replace hO := hO.tr hO2; clear hO2; clear hS; have hS := hS2; clear hS2
  refine zV_blk (pc' := 11) (lo' := [(0, .ref a0), (1, .long x1), (3, .long x3)]) (st' := [.long x3, .ref a0]) [.aload_n 0, .lload_n 3] (by decide +kernel) rfl ?_
  refine zV_putS (ci := 2) (idx := 15) (k := 1) (v := .long x3) (fs' := [.long x1, .long x3]) tyX2 hS rfl z_in2 tyX2_ok nmX2 (by decide) (zT_mem 706 (by decide +kernel) rfl) (fun _ => ⟨rfl, rfl⟩) rfl rfl (Nat.le_of_ble_eq_true rfl) rfl (by decide +kernel) (fun hm2 hS2 hO2 => ?_)
  replace hO := hO.tr hO2; clear hO2; clear hS; have hS := hS2; clear hS2
  obtain rfl := Option.some.inj h
  exact zV_vret rfl (by decide +kernel) (hQ0 _ hS hO)

def k_newTrue (x1 : Int32) (x2 : Int32) (x3 : Int32) (x4 : Int32) (x5 : Int32) : Option (vTrue) := (j_maxI 1 x3).bind (fun v1 => (j_maxI 1 x5).bind (fun v2 => some (x1, x2, v1, x4, v2)))
theorem oX10_init : zO yX10_init cX10_init 6 none 5 := ⟨zT_mem 272 (by decide +kernel) rfl, zT_mem 99 (by decide +kernel) rfl, by decide +kernel, by decide +kernel, by decide +kernel⟩
set_option maxHeartbeats 4000000 in
set_option maxRecDepth 100000 in
theorem ck_newTrue (s0 : State) (D : va_G) (cB cI cJ cD : ClassId) (x1 : Int32) (x2 : Int32) (x3 : Int32) (x4 : Int32) (x5 : Int32) (a0 : Nat) (x : vTrue) (h : k_newTrue x1 x2 x3 x4 x5 = some x) {hi hm : zHp} {nx : Nat} {Q : Option Value → zHp → zHp → Nat → Prop} (hS : hm a0 = some (.inr (10, [.int 0, .int 0, .int 0, .int 0, .int 0]))) (hQ0 : ∀ hm', hm' a0 = some (.inr (10, [.int x.1, .int x.2.1, .int x.2.2.1, .int x.2.2.2.1, .int x.2.2.2.2])) → zO1 a0 hm hm' → Q none hi hm' nx) : zM s0 D (zty cB cI cJ cD) yX10_init cX10_init 6 none 1 21 0 0 [.ref a0, .int x1, .int x2, .int x3, .int x4, .int x5] hi hm nx Q := by
  have hO : zO1 a0 hm hm := zO1.rf
  refine zM_of (by decide +kernel) (Nat.le_of_ble_eq_true rfl) ?_
  unfold k_newTrue at h
  refine zV_eq (lo2 := [(0, .ref a0), (1, .int x1), (2, .int x2), (3, .int x3), (4, .int x4), (5, .int x5)]) rfl rfl rfl rfl ?_
  refine zV_blk (pc' := 1) (lo' := [(0, .ref a0), (1, .int x1), (2, .int x2), (3, .int x3), (4, .int x4), (5, .int x5)]) (st' := [.ref a0]) [.aload_n 0] (by decide +kernel) rfl ?_
  refine zV_objInit (idx := 1) (zT_mem 273 (by decide +kernel) rfl) (zT_mem 119 (by decide +kernel) rfl) (zT_mem 120 (by decide +kernel) rfl) (by decide) (Nat.le_of_ble_eq_true rfl) (by decide +kernel) ?_
  refine zV_blk (pc' := 6) (lo' := [(0, .ref a0), (1, .int x1), (2, .int x2), (3, .int x3), (4, .int x4), (5, .int x5)]) (st' := [.int x1, .ref a0]) [.aload_n 0, .iload_n 1] (by decide +kernel) rfl ?_
  refine zV_putS (ci := 10) (idx := 7) (k := 0) (v := .int x1) (fs' := [.int x1, .int 0, .int 0, .int 0, .int 0]) tyX10 hS rfl z_in10 tyX10_ok nmX10 (by decide) (zT_mem 277 (by decide +kernel) rfl) (fun _ => ⟨rfl, rfl⟩) rfl rfl (Nat.le_of_ble_eq_true rfl) rfl (by decide +kernel) (fun hm2 hS2 hO2 => ?_)
  replace hO := hO.tr hO2; clear hO2; clear hS; have hS := hS2; clear hS2
  refine zV_blk (pc' := 11) (lo' := [(0, .ref a0), (1, .int x1), (2, .int x2), (3, .int x3), (4, .int x4), (5, .int x5)]) (st' := [.int x2, .ref a0]) [.aload_n 0, .iload_n 2] (by decide +kernel) rfl ?_
  refine zV_putS (ci := 10) (idx := 13) (k := 1) (v := .int x2) (fs' := [.int x1, .int x2, .int 0, .int 0, .int 0]) tyX10 hS rfl z_in10 tyX10_ok nmX10 (by decide) (zT_mem 279 (by decide +kernel) rfl) (fun _ => ⟨rfl, rfl⟩) rfl rfl (Nat.le_of_ble_eq_true rfl) rfl (by decide +kernel) (fun hm2 hS2 hO2 => ?_)
  replace hO := hO.tr hO2; clear hO2; clear hS; have hS := hS2; clear hS2
  refine zV_blk (pc' := 17) (lo' := [(0, .ref a0), (1, .int x1), (2, .int x2), (3, .int x3), (4, .int x4), (5, .int x5)]) (st' := [.int x3, .int 1, .ref a0]) [.aload_n 0, .iconst 1, .iload_n 3] (by decide +kernel) rfl ?_
  obtain ⟨v1, hv1, h⟩ := zbind h
  refine zV_roS (idx := 16) (rest := [.ref a0]) (fun Q2 hQ2 => cj_maxI s0 D cB cI cJ cD 1 x3  v1 hv1  hQ2) oJ9_max_7cf53 (zT_mem 274 (by decide +kernel) rfl) (zT_mem 275 (by decide +kernel) rfl) rfl rfl (Nat.le_of_ble_eq_true rfl) ⟨by decide, by decide⟩ (by decide +kernel) ?_
  refine zV_eq (st2 := [.int v1, .ref a0]) rfl rfl rfl rfl ?_
  refine zV_putS (ci := 10) (idx := 22) (k := 2) (v := .int v1) (fs' := [.int x1, .int x2, .int v1, .int 0, .int 0]) tyX10 hS rfl z_in10 tyX10_ok nmX10 (by decide) (zT_mem 281 (by decide +kernel) rfl) (fun _ => ⟨rfl, rfl⟩) rfl rfl (Nat.le_of_ble_eq_true rfl) rfl (by decide +kernel) (fun hm2 hS2 hO2 => ?_)
  replace hO := hO.tr hO2; clear hO2; clear hS; have hS := hS2; clear hS2
  refine zV_blk (pc' := 26) (lo' := [(0, .ref a0), (1, .int x1), (2, .int x2), (3, .int x3), (4, .int x4), (5, .int x5)]) (st' := [.int x4, .ref a0]) [.aload_n 0, .iload 4] (by decide +kernel) rfl ?_
  refine zV_putS (ci := 10) (idx := 25) (k := 3) (v := .int x4) (fs' := [.int x1, .int x2, .int v1, .int x4, .int 0]) tyX10 hS rfl z_in10 tyX10_ok nmX10 (by decide) (zT_mem 284 (by decide +kernel) rfl) (fun _ => ⟨rfl, rfl⟩) rfl rfl (Nat.le_of_ble_eq_true rfl) rfl (by decide +kernel) (fun hm2 hS2 hO2 => ?_)
  replace hO := hO.tr hO2; clear hO2; clear hS; have hS := hS2; clear hS2
  refine zV_blk (pc' := 33) (lo' := [(0, .ref a0), (1, .int x1), (2, .int x2), (3, .int x3), (4, .int x4), (5, .int x5)]) (st' := [.int x5, .int 1, .ref a0]) [.aload_n 0, .iconst 1, .iload 5] (by decide +kernel) rfl ?_
  obtain ⟨v2, hv2, h⟩ := zbind h
  refine zV_roS (idx := 16) (rest := [.ref a0]) (fun Q2 hQ2 => cj_maxI s0 D cB cI cJ cD 1 x5  v2 hv2  hQ2) oJ9_max_7cf53 (zT_mem 274 (by decide +kernel) rfl) (zT_mem 275 (by decide +kernel) rfl) rfl rfl (Nat.le_of_ble_eq_true rfl) ⟨by decide, by decide⟩ (by decide +kernel) ?_
  refine zV_eq (st2 := [.int v2, .ref a0]) rfl rfl rfl rfl ?_
  refine zV_putS (ci := 10) (idx := 28) (k := 4) (v := .int v2) (fs' := [.int x1, .int x2, .int v1, .int x4, .int v2]) tyX10 hS rfl z_in10 tyX10_ok nmX10 (by decide) (zT_mem 285 (by decide +kernel) rfl) (fun _ => ⟨rfl, rfl⟩) rfl rfl (Nat.le_of_ble_eq_true rfl) rfl (by decide +kernel) (fun hm2 hS2 hO2 => ?_)
  replace hO := hO.tr hO2; clear hO2; clear hS; have hS := hS2; clear hS2
  obtain rfl := Option.some.inj h
  exact zV_vret rfl (by decide +kernel) (hQ0 _ hS hO)

def k_newDes (x1 : vFrame) (x2 : vLaw) (x3 : vTrue) : Option (vDes) := some (x1, x2, x3)
theorem oX0_init : zO yX0_init cX0_init 4 none 3 := ⟨zT_mem 561 (by decide +kernel) rfl, zT_mem 105 (by decide +kernel) rfl, by decide +kernel, by decide +kernel, by decide +kernel⟩
set_option maxHeartbeats 4000000 in
set_option maxRecDepth 100000 in
theorem ck_newDes (s0 : State) (D : va_G) (cB cI cJ cD : ClassId) (x1 : vFrame) (x2 : vLaw) (x3 : vTrue) (a0 : Nat) (a1 : Nat) (a2 : Nat) (a3 : Nat) (x : vDes) (h : k_newDes x1 x2 x3 = some x) {hi hm : zHp} {nx : Nat} {Q : Option Value → zHp → zHp → Nat → Prop} (ho1 : iFrame cI hi a1 x1) (ho2 : iLaw cI hi a2 x2) (ho3 : iTrue hi a3 x3) (hS : hm a0 = some (.inr (0, [.null, .null, .null]))) (hQ0 : ∀ hm', hm' a0 = some (.inr (0, [.ref a1, .ref a2, .ref a3])) → zO1 a0 hm hm' → Q none hi hm' nx) : zM s0 D (zty cB cI cJ cD) yX0_init cX0_init 4 none 1 20 0 0 [.ref a0, .ref a1, .ref a2, .ref a3] hi hm nx Q := by
  have hO : zO1 a0 hm hm := zO1.rf
  refine zM_of (by decide +kernel) (Nat.le_of_ble_eq_true rfl) ?_
  unfold k_newDes at h
  refine zV_eq (lo2 := [(0, .ref a0), (1, .ref a1), (2, .ref a2), (3, .ref a3)]) rfl rfl rfl rfl ?_
  refine zV_blk (pc' := 1) (lo' := [(0, .ref a0), (1, .ref a1), (2, .ref a2), (3, .ref a3)]) (st' := [.ref a0]) [.aload_n 0] (by decide +kernel) rfl ?_
  refine zV_objInit (idx := 3) (zT_mem 562 (by decide +kernel) rfl) (zT_mem 119 (by decide +kernel) rfl) (zT_mem 120 (by decide +kernel) rfl) (by decide) (Nat.le_of_ble_eq_true rfl) (by decide +kernel) ?_
  refine zV_blk (pc' := 6) (lo' := [(0, .ref a0), (1, .ref a1), (2, .ref a2), (3, .ref a3)]) (st' := [.ref a1, .ref a0]) [.aload_n 0, .aload_n 1] (by decide +kernel) rfl ?_
  refine zV_putS (ci := 0) (idx := 9) (k := 0) (v := .ref a1) (fs' := [.ref a1, .null, .null]) tyX0 hS rfl z_in0 tyX0_ok nmX0 (by decide) (zT_mem 563 (by decide +kernel) rfl) (fun _ => ⟨rfl, rfl⟩) rfl rfl (Nat.le_of_ble_eq_true rfl) rfl (by decide +kernel) (fun hm2 hS2 hO2 => ?_)
  replace hO := hO.tr hO2; clear hO2; clear hS; have hS := hS2; clear hS2
  refine zV_blk (pc' := 11) (lo' := [(0, .ref a0), (1, .ref a1), (2, .ref a2), (3, .ref a3)]) (st' := [.ref a2, .ref a0]) [.aload_n 0, .aload_n 2] (by decide +kernel) rfl ?_
  refine zV_putS (ci := 0) (idx := 15) (k := 1) (v := .ref a2) (fs' := [.ref a1, .ref a2, .null]) tyX0 hS rfl z_in0 tyX0_ok nmX0 (by decide) (zT_mem 565 (by decide +kernel) rfl) (fun _ => ⟨rfl, rfl⟩) rfl rfl (Nat.le_of_ble_eq_true rfl) rfl (by decide +kernel) (fun hm2 hS2 hO2 => ?_)
  replace hO := hO.tr hO2; clear hO2; clear hS; have hS := hS2; clear hS2
  refine zV_blk (pc' := 16) (lo' := [(0, .ref a0), (1, .ref a1), (2, .ref a2), (3, .ref a3)]) (st' := [.ref a3, .ref a0]) [.aload_n 0, .aload_n 3] (by decide +kernel) rfl ?_
  refine zV_putS (ci := 0) (idx := 19) (k := 2) (v := .ref a3) (fs' := [.ref a1, .ref a2, .ref a3]) tyX0 hS rfl z_in0 tyX0_ok nmX0 (by decide) (zT_mem 567 (by decide +kernel) rfl) (fun _ => ⟨rfl, rfl⟩) rfl rfl (Nat.le_of_ble_eq_true rfl) rfl (by decide +kernel) (fun hm2 hS2 hO2 => ?_)
  replace hO := hO.tr hO2; clear hO2; clear hS; have hS := hS2; clear hS2
  obtain rfl := Option.some.inj h
  exact zV_vret rfl (by decide +kernel) (hQ0 _ hS hO)

theorem oX6_init : zO yX6_init cX6_init 1 none 0 := ⟨zT_mem 265 (by decide +kernel) rfl, zT_mem 98 (by decide +kernel) rfl, by decide +kernel, by decide +kernel, by decide +kernel⟩
set_option maxHeartbeats 4000000 in
set_option maxRecDepth 100000 in
theorem ck_newLaw (s0 : State) (D : va_G) (cB cI cJ cD : ClassId) (a0 : Nat) {hi hm : zHp} {nx : Nat} {Q : Option Value → zHp → zHp → Nat → Prop} (hQ0 : Q none hi hm nx) : zM s0 D (zty cB cI cJ cD) yX6_init cX6_init 1 none 1 20 0 0 [.ref a0] hi hm nx Q := by
  refine zM_of (by decide +kernel) (Nat.le_of_ble_eq_true rfl) ?_
  refine zV_eq (lo2 := [(0, .ref a0)]) rfl rfl rfl rfl ?_
  refine zV_blk (pc' := 1) (lo' := [(0, .ref a0)]) (st' := [.ref a0]) [.aload_n 0] (by decide +kernel) rfl ?_
  refine zV_objInit (idx := 1) (zT_mem 266 (by decide +kernel) rfl) (zT_mem 119 (by decide +kernel) rfl) (zT_mem 120 (by decide +kernel) rfl) (by decide) (Nat.le_of_ble_eq_true rfl) (by decide +kernel) ?_
  exact zV_vret rfl (by decide +kernel) hQ0

def k_newEven (x1 : Int32) (x2 : Int32) (x3 : Int32) : Option (vEven) := (j_maxI 1 x2).bind (fun v1 => some (x1, v1, x3))
theorem oX1_init : zO yX1_init cX1_init 4 none 3 := ⟨zT_mem 435 (by decide +kernel) rfl, zT_mem 102 (by decide +kernel) rfl, by decide +kernel, by decide +kernel, by decide +kernel⟩
set_option maxHeartbeats 4000000 in
set_option maxRecDepth 100000 in
theorem ck_newEven (s0 : State) (D : va_G) (cB cI cJ cD : ClassId) (x1 : Int32) (x2 : Int32) (x3 : Int32) (a0 : Nat) (x : vEven) (h : k_newEven x1 x2 x3 = some x) {hi hm : zHp} {nx : Nat} {Q : Option Value → zHp → zHp → Nat → Prop} (hS : hm a0 = some (.inr (1, [.int 0, .int 0, .int 0]))) (hQ0 : ∀ hm', hm' a0 = some (.inr (1, [.int x.1, .int x.2.1, .int x.2.2])) → zO1 a0 hm hm' → Q none hi hm' nx) : zM s0 D (zty cB cI cJ cD) yX1_init cX1_init 4 none 2 40 0 0 [.ref a0, .int x1, .int x2, .int x3] hi hm nx Q := by
  have hO : zO1 a0 hm hm := zO1.rf
  refine zM_of (by decide +kernel) (Nat.le_of_ble_eq_true rfl) ?_
  unfold k_newEven at h
  refine zV_eq (lo2 := [(0, .ref a0), (1, .int x1), (2, .int x2), (3, .int x3)]) rfl rfl rfl rfl ?_
  refine zV_blk (pc' := 1) (lo' := [(0, .ref a0), (1, .int x1), (2, .int x2), (3, .int x3)]) (st' := [.ref a0]) [.aload_n 0] (by decide +kernel) rfl ?_
  refine zV_supN (host := "LeapDesigner") (idx := 1) (fun Q2 hQ2 => ck_newLaw s0 D cB cI cJ cD a0 hQ2) oX6_init rfl (List.mem_of_getElem? (i := 436) (by decide +kernel)) (zT_mem 264 (by decide +kernel) rfl) (Nat.le_of_ble_eq_true rfl) ⟨by decide, by decide⟩ (by decide +kernel) ?_
  refine zV_blk (pc' := 6) (lo' := [(0, .ref a0), (1, .int x1), (2, .int x2), (3, .int x3)]) (st' := [.int x1, .ref a0]) [.aload_n 0, .iload_n 1] (by decide +kernel) rfl ?_
  refine zV_putS (ci := 1) (idx := 7) (k := 0) (v := .int x1) (fs' := [.int x1, .int 0, .int 0]) tyX1 hS rfl z_in1 tyX1_ok nmX1 (by decide) (zT_mem 438 (by decide +kernel) rfl) (fun _ => ⟨rfl, rfl⟩) rfl rfl (Nat.le_of_ble_eq_true rfl) rfl (by decide +kernel) (fun hm2 hS2 hO2 => ?_)
  replace hO := hO.tr hO2; clear hO2; clear hS; have hS := hS2; clear hS2
  refine zV_blk (pc' := 12) (lo' := [(0, .ref a0), (1, .int x1), (2, .int x2), (3, .int x3)]) (st' := [.int x2, .int 1, .ref a0]) [.aload_n 0, .iconst 1, .iload_n 2] (by decide +kernel) rfl ?_
  obtain ⟨v1, hv1, h⟩ := zbind h
  refine zV_roS (idx := 13) (rest := [.ref a0]) (fun Q2 hQ2 => cj_maxI s0 D cB cI cJ cD 1 x2  v1 hv1  hQ2) oJ9_max_7cf53 (zT_mem 437 (by decide +kernel) rfl) (zT_mem 275 (by decide +kernel) rfl) rfl rfl (Nat.le_of_ble_eq_true rfl) ⟨by decide, by decide⟩ (by decide +kernel) ?_
  refine zV_eq (st2 := [.int v1, .ref a0]) rfl rfl rfl rfl ?_
  refine zV_putS (ci := 1) (idx := 19) (k := 1) (v := .int v1) (fs' := [.int x1, .int v1, .int 0]) tyX1 hS rfl z_in1 tyX1_ok nmX1 (by decide) (zT_mem 440 (by decide +kernel) rfl) (fun _ => ⟨rfl, rfl⟩) rfl rfl (Nat.le_of_ble_eq_true rfl) rfl (by decide +kernel) (fun hm2 hS2 hO2 => ?_)
  replace hO := hO.tr hO2; clear hO2; clear hS; have hS := hS2; clear hS2
  refine zV_blk (pc' := 20) (lo' := [(0, .ref a0), (1, .int x1), (2, .int x2), (3, .int x3)]) (st' := [.int x3, .ref a0]) [.aload_n 0, .iload_n 3] (by decide +kernel) rfl ?_
  refine zV_putS (ci := 1) (idx := 22) (k := 2) (v := .int x3) (fs' := [.int x1, .int v1, .int x3]) tyX1 hS rfl z_in1 tyX1_ok nmX1 (by decide) (zT_mem 442 (by decide +kernel) rfl) (fun _ => ⟨rfl, rfl⟩) rfl rfl (Nat.le_of_ble_eq_true rfl) rfl (by decide +kernel) (fun hm2 hS2 hO2 => ?_)
  replace hO := hO.tr hO2; clear hO2; clear hS; have hS := hS2; clear hS2
  obtain rfl := Option.some.inj h
  exact zV_vret rfl (by decide +kernel) (hQ0 _ hS hO)

def k_newLadder (x1 : vArr) : Option (vArr) := some x1
theorem oX5_init : zO yX5_init cX5_init 2 none 1 := ⟨zT_mem 469 (by decide +kernel) rfl, zT_mem 103 (by decide +kernel) rfl, by decide +kernel, by decide +kernel, by decide +kernel⟩
set_option maxHeartbeats 4000000 in
set_option maxRecDepth 100000 in
theorem ck_newLadder (s0 : State) (D : va_G) (cB cI cJ cD : ClassId) (x1 : vArr) (a0 : Nat) (a1 : Nat) (x : vArr) (h : k_newLadder x1 = some x) {hi hm : zHp} {nx : Nat} {Q : Option Value → zHp → zHp → Nat → Prop} (ho1 : iArr cI hi a1 x1) (hS : hm a0 = some (.inr (5, [.null]))) (hQ0 : ∀ hm', hm' a0 = some (.inr (5, [.ref a1])) → zO1 a0 hm hm' → Q none hi hm' nx) : zM s0 D (zty cB cI cJ cD) yX5_init cX5_init 2 none 2 40 0 0 [.ref a0, .ref a1] hi hm nx Q := by
  have hO : zO1 a0 hm hm := zO1.rf
  refine zM_of (by decide +kernel) (Nat.le_of_ble_eq_true rfl) ?_
  unfold k_newLadder at h
  refine zV_eq (lo2 := [(0, .ref a0), (1, .ref a1)]) rfl rfl rfl rfl ?_
  refine zV_blk (pc' := 1) (lo' := [(0, .ref a0), (1, .ref a1)]) (st' := [.ref a0]) [.aload_n 0] (by decide +kernel) rfl ?_
  refine zV_supN (host := "LeapDesigner") (idx := 1) (fun Q2 hQ2 => ck_newLaw s0 D cB cI cJ cD a0 hQ2) oX6_init rfl (List.mem_of_getElem? (i := 470) (by decide +kernel)) (zT_mem 264 (by decide +kernel) rfl) (Nat.le_of_ble_eq_true rfl) ⟨by decide, by decide⟩ (by decide +kernel) ?_
  refine zV_blk (pc' := 6) (lo' := [(0, .ref a0), (1, .ref a1)]) (st' := [.ref a1, .ref a0]) [.aload_n 0, .aload_n 1] (by decide +kernel) rfl ?_
  refine zV_putS (ci := 5) (idx := 7) (k := 0) (v := .ref a1) (fs' := [.ref a1]) tyX5 hS rfl z_in5 tyX5_ok nmX5 (by decide) (zT_mem 471 (by decide +kernel) rfl) (fun _ => ⟨rfl, rfl⟩) rfl rfl (Nat.le_of_ble_eq_true rfl) rfl (by decide +kernel) (fun hm2 hS2 hO2 => ?_)
  replace hO := hO.tr hO2; clear hO2; clear hS; have hS := hS2; clear hS2
  obtain rfl := Option.some.inj h
  exact zV_vret rfl (by decide +kernel) (hQ0 _ hS hO)

def k_newRow (x1 : vArr) : Option (vRow) := some (x1, ((nI x1.1) - 1))
theorem oX8_init : zO yX8_init cX8_init 2 none 1 := ⟨zT_mem 484 (by decide +kernel) rfl, zT_mem 104 (by decide +kernel) rfl, by decide +kernel, by decide +kernel, by decide +kernel⟩
set_option maxHeartbeats 4000000 in
set_option maxRecDepth 100000 in
theorem ck_newRow (s0 : State) (D : va_G) (cB cI cJ cD : ClassId) (x1 : vArr) (a0 : Nat) (a1 : Nat) (x : vRow) (h : k_newRow x1 = some x) {hi hm : zHp} {nx : Nat} {Q : Option Value → zHp → zHp → Nat → Prop} (ho1 : iArr cI hi a1 x1) (hS : hm a0 = some (.inr (8, [.null, .int 0]))) (hQ0 : ∀ hm', hm' a0 = some (.inr (8, [.ref a1, .int x.2])) → zO1 a0 hm hm' → Q none hi hm' nx) : zM s0 D (zty cB cI cJ cD) yX8_init cX8_init 2 none 2 40 0 0 [.ref a0, .ref a1] hi hm nx Q := by
  have hO : zO1 a0 hm hm := zO1.rf
  refine zM_of (by decide +kernel) (Nat.le_of_ble_eq_true rfl) ?_
  unfold k_newRow at h
  refine zV_eq (lo2 := [(0, .ref a0), (1, .ref a1)]) rfl rfl rfl rfl ?_
  refine zV_blk (pc' := 1) (lo' := [(0, .ref a0), (1, .ref a1)]) (st' := [.ref a0]) [.aload_n 0] (by decide +kernel) rfl ?_
  refine zV_supN (host := "LeapDesigner") (idx := 1) (fun Q2 hQ2 => ck_newLaw s0 D cB cI cJ cD a0 hQ2) oX6_init rfl (List.mem_of_getElem? (i := 485) (by decide +kernel)) (zT_mem 264 (by decide +kernel) rfl) (Nat.le_of_ble_eq_true rfl) ⟨by decide, by decide⟩ (by decide +kernel) ?_
  refine zV_blk (pc' := 6) (lo' := [(0, .ref a0), (1, .ref a1)]) (st' := [.ref a1, .ref a0]) [.aload_n 0, .aload_n 1] (by decide +kernel) rfl ?_
  refine zV_putS (ci := 8) (idx := 7) (k := 0) (v := .ref a1) (fs' := [.ref a1, .int 0]) tyX8 hS rfl z_in8 tyX8_ok nmX8 (by decide) (zT_mem 486 (by decide +kernel) rfl) (fun _ => ⟨rfl, rfl⟩) rfl rfl (Nat.le_of_ble_eq_true rfl) rfl (by decide +kernel) (fun hm2 hS2 hO2 => ?_)
  replace hO := hO.tr hO2; clear hO2; clear hS; have hS := hS2; clear hS2
  refine zV_blk (pc' := 11) (lo' := [(0, .ref a0), (1, .ref a1)]) (st' := [.ref a1, .ref a0]) [.aload_n 0, .aload_n 1] (by decide +kernel) rfl ?_
  refine zV_alen 1 (Or.inl ho1) rfl (by decide +kernel) ?_
  refine zV_blk (pc' := 14) (lo' := [(0, .ref a0), (1, .ref a1)]) (st' := [.int ((nI x1.1) - 1), .ref a0]) [.iconst 1, .isub] (by decide +kernel) rfl ?_
  refine zV_putS (ci := 8) (idx := 13) (k := 1) (v := .int ((nI x1.1) - 1)) (fs' := [.ref a1, .int ((nI x1.1) - 1)]) tyX8 hS rfl z_in8 tyX8_ok nmX8 (by decide) (zT_mem 487 (by decide +kernel) rfl) (fun _ => ⟨rfl, rfl⟩) rfl rfl (Nat.le_of_ble_eq_true rfl) rfl (by decide +kernel) (fun hm2 hS2 hO2 => ?_)
  replace hO := hO.tr hO2; clear hO2; clear hS; have hS := hS2; clear hS2
  obtain rfl := Option.some.inj h
  exact zV_vret rfl (by decide +kernel) (hQ0 _ hS hO)

def k_newFrame (x1 : Int32) (x2 : Int32) (x3 : vArr) (x4 : Int32) (x5 : Int32) (x6 : Int32) : Option (vFrame) := (j_maxI 1 x5).bind (fun v1 => some (x1, x2, x3, x4, v1, x6))
theorem oX3_init : zO yX3_init cX3_init 7 none 6 := ⟨zT_mem 529 (by decide +kernel) rfl, zT_mem 106 (by decide +kernel) rfl, by decide +kernel, by decide +kernel, by decide +kernel⟩
set_option maxHeartbeats 4000000 in
set_option maxRecDepth 100000 in
theorem ck_newFrame (s0 : State) (D : va_G) (cB cI cJ cD : ClassId) (x1 : Int32) (x2 : Int32) (x3 : vArr) (x4 : Int32) (x5 : Int32) (x6 : Int32) (a0 : Nat) (a3 : Nat) (x : vFrame) (h : k_newFrame x1 x2 x3 x4 x5 x6 = some x) {hi hm : zHp} {nx : Nat} {Q : Option Value → zHp → zHp → Nat → Prop} (ho3 : iArr cI hi a3 x3) (hS : hm a0 = some (.inr (3, [.int 0, .int 0, .null, .int 0, .int 0, .int 0]))) (hQ0 : ∀ hm', hm' a0 = some (.inr (3, [.int x.1, .int x.2.1, .ref a3, .int x.2.2.2.1, .int x.2.2.2.2.1, .int x.2.2.2.2.2])) → zO1 a0 hm hm' → Q none hi hm' nx) : zM s0 D (zty cB cI cJ cD) yX3_init cX3_init 7 none 1 21 0 0 [.ref a0, .int x1, .int x2, .ref a3, .int x4, .int x5, .int x6] hi hm nx Q := by
  have hO : zO1 a0 hm hm := zO1.rf
  refine zM_of (by decide +kernel) (Nat.le_of_ble_eq_true rfl) ?_
  unfold k_newFrame at h
  refine zV_eq (lo2 := [(0, .ref a0), (1, .int x1), (2, .int x2), (3, .ref a3), (4, .int x4), (5, .int x5), (6, .int x6)]) rfl rfl rfl rfl ?_
  refine zV_blk (pc' := 1) (lo' := [(0, .ref a0), (1, .int x1), (2, .int x2), (3, .ref a3), (4, .int x4), (5, .int x5), (6, .int x6)]) (st' := [.ref a0]) [.aload_n 0] (by decide +kernel) rfl ?_
  refine zV_objInit (idx := 1) (zT_mem 530 (by decide +kernel) rfl) (zT_mem 119 (by decide +kernel) rfl) (zT_mem 120 (by decide +kernel) rfl) (by decide) (Nat.le_of_ble_eq_true rfl) (by decide +kernel) ?_
  refine zV_blk (pc' := 6) (lo' := [(0, .ref a0), (1, .int x1), (2, .int x2), (3, .ref a3), (4, .int x4), (5, .int x5), (6, .int x6)]) (st' := [.int x1, .ref a0]) [.aload_n 0, .iload_n 1] (by decide +kernel) rfl ?_
  refine zV_putS (ci := 3) (idx := 7) (k := 0) (v := .int x1) (fs' := [.int x1, .int 0, .null, .int 0, .int 0, .int 0]) tyX3 hS rfl z_in3 tyX3_ok nmX3 (by decide) (zT_mem 532 (by decide +kernel) rfl) (fun _ => ⟨rfl, rfl⟩) rfl rfl (Nat.le_of_ble_eq_true rfl) rfl (by decide +kernel) (fun hm2 hS2 hO2 => ?_)
  replace hO := hO.tr hO2; clear hO2; clear hS; have hS := hS2; clear hS2
  refine zV_blk (pc' := 11) (lo' := [(0, .ref a0), (1, .int x1), (2, .int x2), (3, .ref a3), (4, .int x4), (5, .int x5), (6, .int x6)]) (st' := [.int x2, .ref a0]) [.aload_n 0, .iload_n 2] (by decide +kernel) rfl ?_
  refine zV_putS (ci := 3) (idx := 13) (k := 1) (v := .int x2) (fs' := [.int x1, .int x2, .null, .int 0, .int 0, .int 0]) tyX3 hS rfl z_in3 tyX3_ok nmX3 (by decide) (zT_mem 535 (by decide +kernel) rfl) (fun _ => ⟨rfl, rfl⟩) rfl rfl (Nat.le_of_ble_eq_true rfl) rfl (by decide +kernel) (fun hm2 hS2 hO2 => ?_)
  replace hO := hO.tr hO2; clear hO2; clear hS; have hS := hS2; clear hS2
  refine zV_blk (pc' := 16) (lo' := [(0, .ref a0), (1, .int x1), (2, .int x2), (3, .ref a3), (4, .int x4), (5, .int x5), (6, .int x6)]) (st' := [.ref a3, .ref a0]) [.aload_n 0, .aload_n 3] (by decide +kernel) rfl ?_
  refine zV_putS (ci := 3) (idx := 16) (k := 2) (v := .ref a3) (fs' := [.int x1, .int x2, .ref a3, .int 0, .int 0, .int 0]) tyX3 hS rfl z_in3 tyX3_ok nmX3 (by decide) (zT_mem 538 (by decide +kernel) rfl) (fun _ => ⟨rfl, rfl⟩) rfl rfl (Nat.le_of_ble_eq_true rfl) rfl (by decide +kernel) (fun hm2 hS2 hO2 => ?_)
  replace hO := hO.tr hO2; clear hO2; clear hS; have hS := hS2; clear hS2
  refine zV_blk (pc' := 22) (lo' := [(0, .ref a0), (1, .int x1), (2, .int x2), (3, .ref a3), (4, .int x4), (5, .int x5), (6, .int x6)]) (st' := [.int x4, .ref a0]) [.aload_n 0, .iload 4] (by decide +kernel) rfl ?_
  refine zV_putS (ci := 3) (idx := 20) (k := 3) (v := .int x4) (fs' := [.int x1, .int x2, .ref a3, .int x4, .int 0, .int 0]) tyX3 hS rfl z_in3 tyX3_ok nmX3 (by decide) (zT_mem 540 (by decide +kernel) rfl) (fun _ => ⟨rfl, rfl⟩) rfl rfl (Nat.le_of_ble_eq_true rfl) rfl (by decide +kernel) (fun hm2 hS2 hO2 => ?_)
  replace hO := hO.tr hO2; clear hO2; clear hS; have hS := hS2; clear hS2
  refine zV_blk (pc' := 29) (lo' := [(0, .ref a0), (1, .int x1), (2, .int x2), (3, .ref a3), (4, .int x4), (5, .int x5), (6, .int x6)]) (st' := [.int x5, .int 1, .ref a0]) [.aload_n 0, .iconst 1, .iload 5] (by decide +kernel) rfl ?_
  obtain ⟨v1, hv1, h⟩ := zbind h
  refine zV_roS (idx := 23) (rest := [.ref a0]) (fun Q2 hQ2 => cj_maxI s0 D cB cI cJ cD 1 x5  v1 hv1  hQ2) oJ9_max_7cf53 (zT_mem 531 (by decide +kernel) rfl) (zT_mem 275 (by decide +kernel) rfl) rfl rfl (Nat.le_of_ble_eq_true rfl) ⟨by decide, by decide⟩ (by decide +kernel) ?_
  refine zV_eq (st2 := [.int v1, .ref a0]) rfl rfl rfl rfl ?_
  refine zV_putS (ci := 3) (idx := 29) (k := 4) (v := .int v1) (fs' := [.int x1, .int x2, .ref a3, .int x4, .int v1, .int 0]) tyX3 hS rfl z_in3 tyX3_ok nmX3 (by decide) (zT_mem 542 (by decide +kernel) rfl) (fun _ => ⟨rfl, rfl⟩) rfl rfl (Nat.le_of_ble_eq_true rfl) rfl (by decide +kernel) (fun hm2 hS2 hO2 => ?_)
  replace hO := hO.tr hO2; clear hO2; clear hS; have hS := hS2; clear hS2
  refine zV_blk (pc' := 38) (lo' := [(0, .ref a0), (1, .int x1), (2, .int x2), (3, .ref a3), (4, .int x4), (5, .int x5), (6, .int x6)]) (st' := [.int x6, .ref a0]) [.aload_n 0, .iload 6] (by decide +kernel) rfl ?_
  refine zV_putS (ci := 3) (idx := 32) (k := 5) (v := .int x6) (fs' := [.int x1, .int x2, .ref a3, .int x4, .int v1, .int x6]) tyX3 hS rfl z_in3 tyX3_ok nmX3 (by decide) (zT_mem 544 (by decide +kernel) rfl) (fun _ => ⟨rfl, rfl⟩) rfl rfl (Nat.le_of_ble_eq_true rfl) rfl (by decide +kernel) (fun hm2 hS2 hO2 => ?_)
  replace hO := hO.tr hO2; clear hO2; clear hS; have hS := hS2; clear hS2
  obtain rfl := Option.some.inj h
  exact zV_vret rfl (by decide +kernel) (hQ0 _ hS hO)

def k_plusTimes (x0 : vFra) (x1 : vFra) (x2 : Int64) : Option (vFra) := (k_newFra (x0.1 + (x2 * x1.1)) (x0.2 + (x2 * x1.2))).bind (fun v4 => some v4)
theorem oX2_plusTimes : zO yX2_plusTimes cX2_plusTimes 4 (some (.object "LeapDesigner$Fraction")) 2 := ⟨zT_mem 1408 (by decide +kernel) rfl, zT_mem 107 (by decide +kernel) rfl, by decide +kernel, by decide +kernel, by decide +kernel⟩
set_option maxHeartbeats 4000000 in
set_option maxRecDepth 100000 in
theorem ck_plusTimes (s0 : State) (D : va_G) (cB cI cJ cD : ClassId) (x0 : vFra) (x1 : vFra) (x2 : Int64) (a0 : Nat) (a1 : Nat) (x : vFra) (h : k_plusTimes x0 x1 x2 = some x) {hi hm : zHp} {nx : Nat} {Q : Option Value → zHp → zHp → Nat → Prop} (ho0 : iFra hi a0 x0) (ho1 : iFra hi a1 x1) (hQ0 : ∀ (a' : Nat) (hi' : zHp) (nx' : Nat), zX hi hi' → iFra hi' a' x → Q (some (.ref a')) hi' hm nx') : zM s0 D (zty cB cI cJ cD) yX2_plusTimes cX2_plusTimes 4 (some (.object "LeapDesigner$Fraction")) 2 44 1 2 [.ref a0, .ref a1, .long x2] hi hm nx Q := by
  have hQ : ∀ r : vFra, x = r → ∀ (a' : Nat) (hi' : zHp) (nx' : Nat), zX hi hi' → iFra hi' a' r → Q (some (.ref a')) hi' hm nx' := fun r hr => by subst hr; exact hQ0
  clear hQ0
  have hXX : zX hi hi := zX.rf
  refine zM_of (by decide +kernel) (Nat.le_of_ble_eq_true rfl) ?_
  unfold k_plusTimes at h
  refine zV_eq (lo2 := [(0, .ref a0), (1, .ref a1), (2, .long x2)]) rfl rfl rfl rfl ?_
  refine zV_newX (mc := 0) (ms := 0) (ci := 2) (idx := 10) (N := 2) (fs := [.long 0, .long 0]) tyX2 rfl z_in2 tyX2_ok (zT_mem 698 (by decide +kernel) rfl) (zT_mem 699 (by decide +kernel) rfl) (zT_mem 107 (by decide +kernel) rfl) (fun j hj => by rcases (show j = 0 ∨ j = 1 by omega) with rfl | rfl <;> rfl) (by decide +kernel) (fun _ hn2 => ?_)
  obtain ⟨b3, heb3⟩ : ∃ z : Nat, z = nx := ⟨_, rfl⟩
  rw [← heb3] at hn2 ⊢
  obtain ⟨nb3, henb3⟩ : ∃ z : Nat, z = b3 + 1 := ⟨_, rfl⟩
  rw [← henb3]; clear henb3 heb3
  refine zV_blk (pc' := 5) (lo' := [(0, .ref a0), (1, .ref a1), (2, .long x2)]) (st' := [.ref a0, .ref b3, .ref b3]) [.dup, .aload_n 0] (by decide +kernel) rfl ?_
  refine zV_get (ci := 2) (idx := 9) (k := 0) (N := 2) (fs := [.long x0.1, .long x0.2]) (v := .long x0.1) (Or.inl ho0) rfl z_in2 (by decide) (zT_mem 704 (by decide +kernel) rfl) rfl (by decide +kernel) ?_
  refine zV_blk (pc' := 10) (lo' := [(0, .ref a0), (1, .ref a1), (2, .long x2)]) (st' := [.ref a1, .long x2, .long x0.1, .ref b3, .ref b3]) [.lload_n 2, .aload_n 1] (by decide +kernel) rfl ?_
  refine zV_get (ci := 2) (idx := 9) (k := 0) (N := 2) (fs := [.long x1.1, .long x1.2]) (v := .long x1.1) (Or.inl ho1) rfl z_in2 (by decide) (zT_mem 704 (by decide +kernel) rfl) rfl (by decide +kernel) ?_
  refine zV_blk (pc' := 16) (lo' := [(0, .ref a0), (1, .ref a1), (2, .long x2)]) (st' := [.ref a0, .long (x0.1 + (x2 * x1.1)), .ref b3, .ref b3]) [.lmul, .ladd, .aload_n 0] (by decide +kernel) rfl ?_
  refine zV_get (ci := 2) (idx := 15) (k := 1) (N := 2) (fs := [.long x0.1, .long x0.2]) (v := .long x0.2) (Or.inl ho0) rfl z_in2 (by decide) (zT_mem 706 (by decide +kernel) rfl) rfl (by decide +kernel) ?_
  refine zV_blk (pc' := 21) (lo' := [(0, .ref a0), (1, .ref a1), (2, .long x2)]) (st' := [.ref a1, .long x2, .long x0.2, .long (x0.1 + (x2 * x1.1)), .ref b3, .ref b3]) [.lload_n 2, .aload_n 1] (by decide +kernel) rfl ?_
  refine zV_get (ci := 2) (idx := 15) (k := 1) (N := 2) (fs := [.long x1.1, .long x1.2]) (v := .long x1.2) (Or.inl ho1) rfl z_in2 (by decide) (zT_mem 706 (by decide +kernel) rfl) rfl (by decide +kernel) ?_
  refine zV_blk (pc' := 26) (lo' := [(0, .ref a0), (1, .ref a1), (2, .long x2)]) (st' := [.long (x0.2 + (x2 * x1.2)), .long (x0.1 + (x2 * x1.1)), .ref b3, .ref b3]) [.lmul, .ladd] (by decide +kernel) rfl ?_
  obtain ⟨v4, hv4, h⟩ := zbind h
  refine zV_mk (idx := 33) (As := [.long (x0.1 + (x2 * x1.1)), .long (x0.2 + (x2 * x1.2))]) (rest := [.ref b3]) (e := .inr (2, [.long v4.1, .long v4.2])) (fun Q2 hQ2 => ck_newFra s0 D cB cI cJ cD (x0.1 + (x2 * x1.1)) (x0.2 + (x2 * x1.2)) b3  v4 hv4  (by simp [va_up]) hQ2) oX2_init rfl (zT_mem 700 (by decide +kernel) rfl) (zT_mem 701 (by decide +kernel) rfl) rfl rfl (Nat.le_of_ble_eq_true rfl) ⟨by decide, by decide⟩ (by decide +kernel) hn2 (fun hi2 hX hc5 => ?_)
  replace ho0 := hX _ _ ho0
  replace ho1 := hX _ _ ho1
  replace hXX := hXX.tr hX; clear hX
  have ho6 : iFra hi2 b3 v4 := hc5
  obtain rfl := Option.some.inj h
  exact zV_aret rfl (Or.inl ⟨_, rfl⟩) (Or.inr ⟨_, rfl⟩) (by decide +kernel) (hQ _ rfl _ _ _ hXX ho6)

def k_leastTerms (n : Nat) (x0 : Int64) (x2 : Int64) : Option (vFra) := (k_gcd n x0 x2).bind (fun v1 => zck (decide (¬ (v1 : Int64) = 0)) (zck (decide (¬ (v1 : Int64) = 0)) ((k_newFra (x0 / v1) (x2 / v1)).bind (fun v5 => some v5))))
theorem oX2_leastTerms : zO yX2_leastTerms cX2_leastTerms 6 (some (.object "LeapDesigner$Fraction")) 2 := ⟨zT_mem 688 (by decide +kernel) rfl, zT_mem 107 (by decide +kernel) rfl, by decide +kernel, by decide +kernel, by decide +kernel⟩
set_option maxHeartbeats 4000000 in
set_option maxRecDepth 100000 in
theorem ck_leastTerms (s0 : State) (D : va_G) (cB cI cJ cD : ClassId) (n : Nat) (x0 : Int64) (x2 : Int64) (x : vFra) (h : k_leastTerms n x0 x2 = some x) {hi hm : zHp} {nx : Nat} {Q : Option Value → zHp → zHp → Nat → Prop} (hQ0 : ∀ (a' : Nat) (hi' : zHp) (nx' : Nat), zX hi hi' → iFra hi' a' x → Q (some (.ref a')) hi' hm nx') : zM s0 D (zty cB cI cJ cD) yX2_leastTerms cX2_leastTerms 6 (some (.object "LeapDesigner$Fraction")) 2 53 1 2 [.long x0, .long x2] hi hm nx Q := by
  have hQ : ∀ r : vFra, x = r → ∀ (a' : Nat) (hi' : zHp) (nx' : Nat), zX hi hi' → iFra hi' a' r → Q (some (.ref a')) hi' hm nx' := fun r hr => by subst hr; exact hQ0
  clear hQ0
  have hXX : zX hi hi := zX.rf
  refine zM_of (by decide +kernel) (Nat.le_of_ble_eq_true rfl) ?_
  unfold k_leastTerms at h
  refine zV_eq (lo2 := [(0, .long x0), (2, .long x2)]) rfl rfl rfl rfl ?_
  refine zV_blk (pc' := 2) (lo' := [(0, .long x0), (2, .long x2)]) (st' := [.long x2, .long x0]) [.lload_n 0, .lload_n 2] (by decide +kernel) rfl ?_
  obtain ⟨v1, hv1, h⟩ := zbind h
  refine zV_roS (idx := 30) (rest := []) (fun Q2 hQ2 => ck_gcd s0 D cB cI cJ cD n x0 x2  v1 hv1  hQ2) oX2_commonDivisor (zT_mem 689 (by decide +kernel) rfl) (zT_mem 690 (by decide +kernel) rfl) rfl rfl (Nat.le_of_ble_eq_true rfl) ⟨by decide, by decide⟩ (by decide +kernel) ?_
  refine zV_eq (st2 := [.long v1]) rfl rfl rfl rfl ?_
  refine zV_blk (pc' := 7) (lo' := [(4, .long v1), (0, .long x0), (2, .long x2)]) (st' := []) [.lstore 4] (by decide +kernel) rfl ?_
  refine zV_newX (mc := 0) (ms := 0) (ci := 2) (idx := 10) (N := 2) (fs := [.long 0, .long 0]) tyX2 rfl z_in2 tyX2_ok (zT_mem 698 (by decide +kernel) rfl) (zT_mem 699 (by decide +kernel) rfl) (zT_mem 107 (by decide +kernel) rfl) (fun j hj => by rcases (show j = 0 ∨ j = 1 by omega) with rfl | rfl <;> rfl) (by decide +kernel) (fun _ hn3 => ?_)
  obtain ⟨b4, heb4⟩ : ∃ z : Nat, z = nx := ⟨_, rfl⟩
  rw [← heb4] at hn3 ⊢
  obtain ⟨nb4, henb4⟩ : ∃ z : Nat, z = b4 + 1 := ⟨_, rfl⟩
  rw [← henb4]; clear henb4 heb4
  refine zV_blk (pc' := 14) (lo' := [(4, .long v1), (0, .long x0), (2, .long x2)]) (st' := [.long v1, .long x0, .ref b4, .ref b4]) [.dup, .lload_n 0, .lload 4] (by decide +kernel) rfl ?_
  obtain ⟨hz, h⟩ := zck_some h
  refine zV_ldiv (by decide +kernel) (of_decide_eq_true hz) ?_
  refine zV_blk (pc' := 18) (lo' := [(4, .long v1), (0, .long x0), (2, .long x2)]) (st' := [.long v1, .long x2, .long (x0 / v1), .ref b4, .ref b4]) [.lload_n 2, .lload 4] (by decide +kernel) rfl ?_
  obtain ⟨hz, h⟩ := zck_some h
  refine zV_ldiv (by decide +kernel) (of_decide_eq_true hz) ?_
  obtain ⟨v5, hv5, h⟩ := zbind h
  refine zV_mk (idx := 33) (As := [.long (x0 / v1), .long (x2 / v1)]) (rest := [.ref b4]) (e := .inr (2, [.long v5.1, .long v5.2])) (fun Q2 hQ2 => ck_newFra s0 D cB cI cJ cD (x0 / v1) (x2 / v1) b4  v5 hv5  (by simp [va_up]) hQ2) oX2_init rfl (zT_mem 700 (by decide +kernel) rfl) (zT_mem 701 (by decide +kernel) rfl) rfl rfl (Nat.le_of_ble_eq_true rfl) ⟨by decide, by decide⟩ (by decide +kernel) hn3 (fun hi2 hX hc6 => ?_)
  replace hXX := hXX.tr hX; clear hX
  have ho7 : iFra hi2 b4 v5 := hc6
  obtain rfl := Option.some.inj h
  exact zV_aret rfl (Or.inl ⟨_, rfl⟩) (Or.inr ⟨_, rfl⟩) (by decide +kernel) (hQ _ rfl _ _ _ hXX ho7)

def k_isNearer (x0 : vFra) (x1 : vFra) (x2 : Int64) (x4 : Int64) : Option (Bool) := (j_abs ((x0.1 * x4) - (x2 * x0.2))).bind (fun v1 => (j_abs ((x1.1 * x4) - (x2 * x1.2))).bind (fun v2 => (if ((v2 * x0.2) : Int64) ≤ ((v1 * x1.2) : Int64) then some false else some true)))
theorem oX2_isNearer : zO yX2_isNearer cX2_isNearer 10 (some .boolean) 3 := ⟨zT_mem 1412 (by decide +kernel) rfl, zT_mem 107 (by decide +kernel) rfl, by decide +kernel, by decide +kernel, by decide +kernel⟩
set_option maxHeartbeats 4000000 in
set_option maxRecDepth 100000 in
theorem ck_isNearer (s0 : State) (D : va_G) (cB cI cJ cD : ClassId) (x0 : vFra) (x1 : vFra) (x2 : Int64) (x4 : Int64) (a0 : Nat) (a1 : Nat) (x : Bool) (h : k_isNearer x0 x1 x2 x4 = some x) {hi hm : zHp} {nx : Nat} {Q : Option Value → zHp → zHp → Nat → Prop} (ho0 : iFra hi a0 x0) (ho1 : iFra hi a1 x1) (hQ0 : Q (some (.int (zb x))) hi hm nx) : zM s0 D (zty cB cI cJ cD) yX2_isNearer cX2_isNearer 10 (some .boolean) 1 21 0 0 [.ref a0, .ref a1, .long x2, .long x4] hi hm nx Q := by
  have hQ : ∀ r : Bool, x = r → Q (some (.int (zb r))) hi hm nx := fun r hr => by subst hr; exact hQ0
  clear hQ0
  refine zM_of (by decide +kernel) (Nat.le_of_ble_eq_true rfl) ?_
  unfold k_isNearer at h
  refine zV_eq (lo2 := [(0, .ref a0), (1, .ref a1), (2, .long x2), (4, .long x4)]) rfl rfl rfl rfl ?_
  refine zV_blk (pc' := 1) (lo' := [(0, .ref a0), (1, .ref a1), (2, .long x2), (4, .long x4)]) (st' := [.ref a0]) [.aload_n 0] (by decide +kernel) rfl ?_
  refine zV_get (ci := 2) (idx := 9) (k := 0) (N := 2) (fs := [.long x0.1, .long x0.2]) (v := .long x0.1) (Or.inl ho0) rfl z_in2 (by decide) (zT_mem 704 (by decide +kernel) rfl) rfl (by decide +kernel) ?_
  refine zV_blk (pc' := 9) (lo' := [(0, .ref a0), (1, .ref a1), (2, .long x2), (4, .long x4)]) (st' := [.ref a0, .long x2, .long (x0.1 * x4)]) [.lload 4, .lmul, .lload_n 2, .aload_n 0] (by decide +kernel) rfl ?_
  refine zV_get (ci := 2) (idx := 15) (k := 1) (N := 2) (fs := [.long x0.1, .long x0.2]) (v := .long x0.2) (Or.inl ho0) rfl z_in2 (by decide) (zT_mem 706 (by decide +kernel) rfl) rfl (by decide +kernel) ?_
  refine zV_blk (pc' := 14) (lo' := [(0, .ref a0), (1, .ref a1), (2, .long x2), (4, .long x4)]) (st' := [.long ((x0.1 * x4) - (x2 * x0.2))]) [.lmul, .lsub] (by decide +kernel) rfl ?_
  obtain ⟨v1, hv1, h⟩ := zbind h
  refine zV_roS (idx := 20) (rest := []) (fun Q2 hQ2 => cj_abs s0 D cB cI cJ cD ((x0.1 * x4) - (x2 * x0.2))  v1 hv1  hQ2) oJ9_abs_067f4 (zT_mem 692 (by decide +kernel) rfl) (zT_mem 693 (by decide +kernel) rfl) rfl rfl (Nat.le_of_ble_eq_true rfl) ⟨by decide, by decide⟩ (by decide +kernel) ?_
  refine zV_eq (st2 := [.long v1]) rfl rfl rfl rfl ?_
  refine zV_blk (pc' := 20) (lo' := [(6, .long v1), (0, .ref a0), (1, .ref a1), (2, .long x2), (4, .long x4)]) (st' := [.ref a1]) [.lstore 6, .aload_n 1] (by decide +kernel) rfl ?_
  refine zV_get (ci := 2) (idx := 9) (k := 0) (N := 2) (fs := [.long x1.1, .long x1.2]) (v := .long x1.1) (Or.inl ho1) rfl z_in2 (by decide) (zT_mem 704 (by decide +kernel) rfl) rfl (by decide +kernel) ?_
  refine zV_blk (pc' := 28) (lo' := [(6, .long v1), (0, .ref a0), (1, .ref a1), (2, .long x2), (4, .long x4)]) (st' := [.ref a1, .long x2, .long (x1.1 * x4)]) [.lload 4, .lmul, .lload_n 2, .aload_n 1] (by decide +kernel) rfl ?_
  refine zV_get (ci := 2) (idx := 15) (k := 1) (N := 2) (fs := [.long x1.1, .long x1.2]) (v := .long x1.2) (Or.inl ho1) rfl z_in2 (by decide) (zT_mem 706 (by decide +kernel) rfl) rfl (by decide +kernel) ?_
  refine zV_blk (pc' := 33) (lo' := [(6, .long v1), (0, .ref a0), (1, .ref a1), (2, .long x2), (4, .long x4)]) (st' := [.long ((x1.1 * x4) - (x2 * x1.2))]) [.lmul, .lsub] (by decide +kernel) rfl ?_
  obtain ⟨v2, hv2, h⟩ := zbind h
  refine zV_roS (idx := 20) (rest := []) (fun Q2 hQ2 => cj_abs s0 D cB cI cJ cD ((x1.1 * x4) - (x2 * x1.2))  v2 hv2  hQ2) oJ9_abs_067f4 (zT_mem 692 (by decide +kernel) rfl) (zT_mem 693 (by decide +kernel) rfl) rfl rfl (Nat.le_of_ble_eq_true rfl) ⟨by decide, by decide⟩ (by decide +kernel) ?_
  refine zV_eq (st2 := [.long v2]) rfl rfl rfl rfl ?_
  refine zV_blk (pc' := 41) (lo' := [(8, .long v2), (6, .long v1), (0, .ref a0), (1, .ref a1), (2, .long x2), (4, .long x4)]) (st' := [.ref a1, .long v1]) [.lstore 8, .lload 6, .aload_n 1] (by decide +kernel) rfl ?_
  refine zV_get (ci := 2) (idx := 15) (k := 1) (N := 2) (fs := [.long x1.1, .long x1.2]) (v := .long x1.2) (Or.inl ho1) rfl z_in2 (by decide) (zT_mem 706 (by decide +kernel) rfl) rfl (by decide +kernel) ?_
  refine zV_blk (pc' := 48) (lo' := [(8, .long v2), (6, .long v1), (0, .ref a0), (1, .ref a1), (2, .long x2), (4, .long x4)]) (st' := [.ref a0, .long v2, .long (v1 * x1.2)]) [.lmul, .lload 8, .aload_n 0] (by decide +kernel) rfl ?_
  refine zV_get (ci := 2) (idx := 15) (k := 1) (N := 2) (fs := [.long x0.1, .long x0.2]) (v := .long x0.2) (Or.inl ho0) rfl z_in2 (by decide) (zT_mem 706 (by decide +kernel) rfl) rfl (by decide +kernel) ?_
  refine zV_blk (pc' := 53) (lo' := [(8, .long v2), (6, .long v1), (0, .ref a0), (1, .ref a1), (2, .long x2), (4, .long x4)]) (st' := [.int (lg_cmp (v1 * x1.2) (v2 * x0.2))]) [.lmul, .lcmp] (by decide +kernel) rfl ?_
  refine zV_lcmp_ge (tgt := 60) (off := 7) (by decide +kernel) (by decide) (fun q => ?_) (fun q => ?_)
  · replace h := zif_pos q h
    clear q
    refine zV_blk (pc' := 61) (lo' := [(8, .long v2), (6, .long v1), (0, .ref a0), (1, .ref a1), (2, .long x2), (4, .long x4)]) (st' := [.int 0]) [.iconst 0] (by decide +kernel) rfl ?_
    obtain rfl := Option.some.inj h
    refine zV_eq (st2 := [.int (zb false)]) rfl rfl rfl rfl ?_
    exact zV_bret rfl (by decide +kernel) (hQ _ rfl)
  · replace h := zif_neg q h
    clear q
    refine zV_blk (pc' := 57) (lo' := [(8, .long v2), (6, .long v1), (0, .ref a0), (1, .ref a1), (2, .long x2), (4, .long x4)]) (st' := [.int 1]) [.iconst 1] (by decide +kernel) rfl ?_
    refine zV_goto (tgt := 61) (off := 4) (by decide +kernel) (by decide) ?_
    obtain rfl := Option.some.inj h
    refine zV_eq (st2 := [.int (zb true)]) rfl rfl rfl rfl ?_
    exact zV_bret rfl (by decide +kernel) (hQ _ rfl)

def k_ofTerms_31 (x4 : Int32) (s : Int64 × Int64 × vFra × vFra × Int32) : Option ((Int64 × Int64 × vFra × vFra × Int32) ⊕ (Option vFra)) := (if (200 : Int32) ≤ (s.2.2.2.2 : Int32) then some (.inr none) else (if (s.2.1 : Int64) ≤ (0 : Int64) then some (.inr none) else zck (decide (¬ (s.2.1 : Int64) = 0)) ((k_plusTimes s.2.2.1 s.2.2.2.1 (s.1 / s.2.1)).bind (fun v1 => (if (s.2.2.2.2 : Int32) = (x4 : Int32) then some (.inr (some v1)) else zck (decide (¬ (s.2.1 : Int64) = 0)) (some (.inl (s.2.1, (s.1 - s.1 / s.2.1 * s.2.1), s.2.2.2.1, v1, (s.2.2.2.2 + 1)))))))))
set_option maxHeartbeats 4000000 in
set_option maxRecDepth 100000 in
theorem ck_ofTerms_31 (s0 : State) (D : va_G) (cB cI cJ cD : ClassId) (x4 : Int32) (s : Int64 × Int64 × vFra × vFra × Int32) (a9 : Nat) (a10 : Nat) {x : (Int64 × Int64 × vFra × vFra × Int32) ⊕ (Option vFra)} {hi0 hi hm : zHp} {nx : Nat} {Q : Option Value → zHp → zHp → Nat → Prop} (ho9 : iFra hi a9 s.2.2.1) (ho10 : iFra hi a10 s.2.2.2.1) (hXX : zX hi0 hi) (mB sB : Nat) (hB : 0 ≤ mB ∧ 0 ≤ sB) (h : k_ofTerms_31 x4 s = some x) (hL31 : ∀ s : Int64 × Int64 × vFra × vFra × Int32, x = (.inl s) → ∀ (hi' : zHp) (nx' : Nat) (a9 : Nat) (a10 : Nat), zX hi0 hi' → iFra hi' a9 s.2.2.1 → iFra hi' a10 s.2.2.2.1 → zV s0 D (zty cB cI cJ cD) yX2_ofTerms cX2_ofTerms 15 (some (.object "LeapDesigner$Fraction")) 3 67 mB sB 31 [(4, .int x4), (5, .long s.1), (7, .long s.2.1), (9, .ref a9), (10, .ref a10), (11, .int s.2.2.2.2)] [] hi' hm nx' Q) (hQ : ∀ r : Option vFra, x = (.inr r) → ∀ (v' : Option Value) (hi' : zHp) (nx' : Nat), zX hi0 hi' → zOp (iFra hi') v' r → Q v' hi' hm nx') : zV s0 D (zty cB cI cJ cD) yX2_ofTerms cX2_ofTerms 15 (some (.object "LeapDesigner$Fraction")) 3 67 (mB + 1) (sB + 2) 31 [(4, .int x4), (5, .long s.1), (7, .long s.2.1), (9, .ref a9), (10, .ref a10), (11, .int s.2.2.2.2)] [] hi hm nx Q := by
  unfold k_ofTerms_31 at h
  refine zV_blk (pc' := 36) (lo' := [(4, .int x4), (5, .long s.1), (7, .long s.2.1), (9, .ref a9), (10, .ref a10), (11, .int s.2.2.2.2)]) (st' := [.int 200, .int s.2.2.2.2]) [.iload 11, .sipush 200] (by decide +kernel) rfl ?_
  refine zV_icmp_ge (tgt := 99) (off := 63) (by decide +kernel) (by decide) (fun q => ?_) (fun q => ?_)
  · replace h := zif_pos q h
    clear q
    refine zV_less (mc' := 0) (ms' := 0) (by omega) (by omega) ?_
    refine zV_blk (pc' := 100) (lo' := [(4, .int x4), (5, .long s.1), (7, .long s.2.1), (9, .ref a9), (10, .ref a10), (11, .int s.2.2.2.2)]) (st' := [.null]) [.aconst_null] (by decide +kernel) rfl ?_
    obtain rfl := Option.some.inj h
    exact zV_aret rfl (Or.inl ⟨_, rfl⟩) (Or.inl rfl) (by decide +kernel) (hQ _ rfl _ _ _ hXX (Or.inl ⟨rfl, rfl⟩))
  · replace h := zif_neg q h
    clear q
    refine zV_blk (pc' := 43) (lo' := [(4, .int x4), (5, .long s.1), (7, .long s.2.1), (9, .ref a9), (10, .ref a10), (11, .int s.2.2.2.2)]) (st' := [.int (lg_cmp s.2.1 0)]) [.lload 7, .lconst 0, .lcmp] (by decide +kernel) rfl ?_
    refine zV_lcmp_le (tgt := 99) (off := 56) (by decide +kernel) (by decide) (fun q => ?_) (fun q => ?_)
    · replace h := zif_pos q h
      clear q
      refine zV_less (mc' := 0) (ms' := 0) (by omega) (by omega) ?_
      refine zV_blk (pc' := 100) (lo' := [(4, .int x4), (5, .long s.1), (7, .long s.2.1), (9, .ref a9), (10, .ref a10), (11, .int s.2.2.2.2)]) (st' := [.null]) [.aconst_null] (by decide +kernel) rfl ?_
      obtain rfl := Option.some.inj h
      exact zV_aret rfl (Or.inl ⟨_, rfl⟩) (Or.inl rfl) (by decide +kernel) (hQ _ rfl _ _ _ hXX (Or.inl ⟨rfl, rfl⟩))
    · replace h := zif_neg q h
      clear q
      refine zV_blk (pc' := 54) (lo' := [(4, .int x4), (5, .long s.1), (7, .long s.2.1), (9, .ref a9), (10, .ref a10), (11, .int s.2.2.2.2)]) (st' := [.long s.2.1, .long s.1, .ref a10, .ref a9]) [.aload 9, .aload 10, .lload 5, .lload 7] (by decide +kernel) rfl ?_
      obtain ⟨hz, h⟩ := zck_some h
      refine zV_ldiv (by decide +kernel) (of_decide_eq_true hz) ?_
      obtain ⟨v1, hv1, h⟩ := zbind h
      refine zV_less (mc' := (mB + 0) + 1) (ms' := (sB + 0) + 2) (by omega) (by omega) ?_
      refine zV_alV (mc := (mB + 0)) (ms := (sB + 0)) (fun hi' v' => ∃ a' : Nat, v' = some (.ref a') ∧ iFra hi' a' v1) (idx := 36) (rest := []) (fs := [.long s.2.2.1.1, .long s.2.2.1.2]) (ci := 2) (fun Q2 hQ2 => ck_plusTimes s0 D cB cI cJ cD s.2.2.1 s.2.2.2.1 (s.1 / s.2.1) a9 a10 v1 hv1 ho9 ho10 (fun a' hi' nx' hX hr => hQ2 _ _ _ hX ⟨a', rfl, hr⟩)) oX2_plusTimes (Or.inl ho9) rfl (zT_mem 1405 (by decide +kernel) rfl) (zT_mem 1407 (by decide +kernel) rfl) (zT_mem 18 (by decide +kernel) rfl) rfl rfl (Nat.le_of_ble_eq_true rfl) ⟨by decide, by decide⟩ (by decide +kernel) ?_
      rintro _ hi2 nx4 hX ⟨b2, rfl, ho3⟩
      replace ho9 := hX _ _ ho9
      replace ho10 := ho10.mono hX
      replace hXX := hXX.tr hX; clear hX
      refine zV_eq (st2 := [.ref b2]) rfl rfl rfl rfl ?_
      refine zV_blk (pc' := 64) (lo' := [(12, .ref b2), (4, .int x4), (5, .long s.1), (7, .long s.2.1), (9, .ref a9), (10, .ref a10), (11, .int s.2.2.2.2)]) (st' := [.int x4, .int s.2.2.2.2]) [.astore 12, .iload 11, .iload 4] (by decide +kernel) rfl ?_
      refine zV_icmp_ne (tgt := 70) (off := 6) (by decide +kernel) (by decide) (fun q => ?_) (fun q => ?_)
      · replace h := zif_neg q h
        clear q
        refine zV_blk (pc' := 82) (lo' := [(10, .ref b2), (9, .ref a10), (12, .ref b2), (4, .int x4), (5, .long s.1), (7, .long s.2.1), (11, .int s.2.2.2.2)]) (st' := [.long s.2.1, .long s.1]) [.aload 10, .astore 9, .aload 12, .astore 10, .lload 5, .lload 7] (by decide +kernel) rfl ?_
        obtain ⟨hz, h⟩ := zck_some h
        refine zV_lrem (by decide +kernel) (of_decide_eq_true hz) ?_
        refine zV_blk (pc' := 96) (lo' := [(11, .int (s.2.2.2.2 + 1)), (7, .long (s.1 - s.1 / s.2.1 * s.2.1)), (5, .long s.2.1), (13, .long (s.1 - s.1 / s.2.1 * s.2.1)), (10, .ref b2), (9, .ref a10), (12, .ref b2), (4, .int x4)]) (st' := []) [.lstore 13, .lload 7, .lstore 5, .lload 13, .lstore 7, .iinc 11 1] (by decide +kernel) rfl ?_
        refine zV_goto (tgt := 31) (off := -65) (by decide +kernel) (by decide) ?_
        obtain rfl := Option.some.inj h
        refine zV_pick (lo2 := [(4, .int x4), (5, .long s.2.1), (7, .long (s.1 - s.1 / s.2.1 * s.2.1)), (9, .ref a10), (10, .ref b2), (11, .int (s.2.2.2.2 + 1))]) [7, 2, 1, 5, 4, 0] rfl ?_
        exact hL31 _ rfl _ _ a10 b2 hXX ho10 ho3
      · replace h := zif_pos q h
        clear q
        refine zV_less (mc' := 0) (ms' := 0) (by omega) (by omega) ?_
        refine zV_blk (pc' := 69) (lo' := [(12, .ref b2), (4, .int x4), (5, .long s.1), (7, .long s.2.1), (9, .ref a9), (10, .ref a10), (11, .int s.2.2.2.2)]) (st' := [.ref b2]) [.aload 12] (by decide +kernel) rfl ?_
        obtain rfl := Option.some.inj h
        exact zV_aret rfl (Or.inl ⟨_, rfl⟩) (Or.inr ⟨_, rfl⟩) (by decide +kernel) (hQ _ rfl _ _ _ hXX (Or.inr ⟨_, _, rfl, rfl, ho3⟩))
theorem ck_ofTerms_31L (s0 : State) (D : va_G) (cB cI cJ cD : ClassId) (x4 : Int32) : ∀ (k : Nat) (s : Int64 × Int64 × vFra × vFra × Int32) (a9 : Nat) (a10 : Nat) {hi0 hi hm : zHp} {nx : Nat} {Q : Option Value → zHp → zHp → Nat → Prop} (ho9 : iFra hi a9 s.2.2.1) (ho10 : iFra hi a10 s.2.2.2.1) (_ : zX hi0 hi) {x : Option vFra} (_ : zloop (k_ofTerms_31 x4) k s = some x) (hQ : ∀ r : Option vFra, x = r → ∀ (v' : Option Value) (hi' : zHp) (nx' : Nat), zX hi0 hi' → zOp (iFra hi') v' r → Q v' hi' hm nx'), zV s0 D (zty cB cI cJ cD) yX2_ofTerms cX2_ofTerms 15 (some (.object "LeapDesigner$Fraction")) 3 67 (1 * k + 0) (2 * k + 0) 31 [(4, .int x4), (5, .long s.1), (7, .long s.2.1), (9, .ref a9), (10, .ref a10), (11, .int s.2.2.2.2)] [] hi hm nx Q
  | 0, s, _, _, _, _, _, _, _, _, _, _, _, h, _ => by cases h
  | k + 1, s, a9, a10, hi0, hi, hm, nx, Q, ho9, ho10, hXX, x, h, hQ => by
    obtain ⟨z, hz, h1, h2⟩ := zloop_succ h
    refine zV_less (mc' := (1 * k + 0) + 1) (ms' := (2 * k + 0) + 2) (by omega) (by omega) ?_
    exact ck_ofTerms_31 s0 D cB cI cJ cD x4  s a9 a10  ho9 ho10 hXX (1 * k + 0) (2 * k + 0) ⟨by omega, by omega⟩ hz (fun s' hs hi' nx' b9 b10 hX hb9 hb10 => ck_ofTerms_31L s0 D cB cI cJ cD x4  k s' b9 b10  hb9 hb10 hX (h1 s' hs) hQ) (fun r hr => hQ r (h2 _ hr).symm)
def k_ofTerms (x0 : Int64) (x2 : Int64) (x4 : Int32) : Option (Option vFra) := (k_newFra 0 1).bind (fun v4 => (k_newFra 1 0).bind (fun v10 => (zloop (k_ofTerms_31 x4) 256 (x0, x2, v4, v10, 0))))
theorem oX2_ofTerms : zO yX2_ofTerms cX2_ofTerms 15 (some (.object "LeapDesigner$Fraction")) 3 := ⟨zT_mem 1426 (by decide +kernel) rfl, zT_mem 107 (by decide +kernel) rfl, by decide +kernel, by decide +kernel, by decide +kernel⟩
set_option maxHeartbeats 4000000 in
set_option maxRecDepth 100000 in
theorem ck_ofTerms (s0 : State) (D : va_G) (cB cI cJ cD : ClassId) (x0 : Int64) (x2 : Int64) (x4 : Int32) (x : Option vFra) (h : k_ofTerms x0 x2 x4 = some x) {hi hm : zHp} {nx : Nat} {Q : Option Value → zHp → zHp → Nat → Prop} (hQ0 : ∀ (v' : Option Value) (hi' : zHp) (nx' : Nat), zX hi hi' → zOp (iFra hi') v' x → Q v' hi' hm nx') : zM s0 D (zty cB cI cJ cD) yX2_ofTerms cX2_ofTerms 15 (some (.object "LeapDesigner$Fraction")) 3 67 258 516 [.long x0, .long x2, .int x4] hi hm nx Q := by
  have hQ : ∀ r : Option vFra, x = r → ∀ (v' : Option Value) (hi' : zHp) (nx' : Nat), zX hi hi' → zOp (iFra hi') v' r → Q v' hi' hm nx' := fun r hr => by subst hr; exact hQ0
  clear hQ0
  have hXX : zX hi hi := zX.rf
  refine zM_of (by decide +kernel) (Nat.le_of_ble_eq_true rfl) ?_
  unfold k_ofTerms at h
  refine zV_eq (lo2 := [(0, .long x0), (2, .long x2), (4, .int x4)]) rfl rfl rfl rfl ?_
  refine zV_blk (pc' := 6) (lo' := [(7, .long x2), (5, .long x0), (0, .long x0), (2, .long x2), (4, .int x4)]) (st' := []) [.lload_n 0, .lstore 5, .lload_n 2, .lstore 7] (by decide +kernel) rfl ?_
  refine zV_newX (mc := 257) (ms := 514) (ci := 2) (idx := 10) (N := 2) (fs := [.long 0, .long 0]) tyX2 rfl z_in2 tyX2_ok (zT_mem 698 (by decide +kernel) rfl) (zT_mem 699 (by decide +kernel) rfl) (zT_mem 107 (by decide +kernel) rfl) (fun j hj => by rcases (show j = 0 ∨ j = 1 by omega) with rfl | rfl <;> rfl) (by decide +kernel) (fun _ hn2 => ?_)
  obtain ⟨b3, heb3⟩ : ∃ z : Nat, z = nx := ⟨_, rfl⟩
  rw [← heb3] at hn2 ⊢
  obtain ⟨nb3, henb3⟩ : ∃ z : Nat, z = b3 + 1 := ⟨_, rfl⟩
  rw [← henb3]; clear henb3 heb3
  refine zV_blk (pc' := 12) (lo' := [(7, .long x2), (5, .long x0), (0, .long x0), (2, .long x2), (4, .int x4)]) (st' := [.long 1, .long 0, .ref b3, .ref b3]) [.dup, .lconst 0, .lconst 1] (by decide +kernel) rfl ?_
  obtain ⟨v4, hv4, h⟩ := zbind h
  refine zV_mk (idx := 33) (As := [.long 0, .long 1]) (rest := [.ref b3]) (e := .inr (2, [.long v4.1, .long v4.2])) (fun Q2 hQ2 => ck_newFra s0 D cB cI cJ cD 0 1 b3  v4 hv4  (by simp [va_up]) hQ2) oX2_init rfl (zT_mem 700 (by decide +kernel) rfl) (zT_mem 701 (by decide +kernel) rfl) rfl rfl (Nat.le_of_ble_eq_true rfl) ⟨by decide, by decide⟩ (by decide +kernel) hn2 (fun hi2 hX hc5 => ?_)
  replace hXX := hXX.tr hX; clear hX
  have ho6 : iFra hi2 b3 v4 := hc5
  refine zV_blk (pc' := 17) (lo' := [(9, .ref b3), (7, .long x2), (5, .long x0), (0, .long x0), (2, .long x2), (4, .int x4)]) (st' := []) [.astore 9] (by decide +kernel) rfl ?_
  refine zV_newX (mc := 256) (ms := 512) (ci := 2) (idx := 10) (N := 2) (fs := [.long 0, .long 0]) tyX2 rfl z_in2 tyX2_ok (zT_mem 698 (by decide +kernel) rfl) (zT_mem 699 (by decide +kernel) rfl) (zT_mem 107 (by decide +kernel) rfl) (fun j hj => by rcases (show j = 0 ∨ j = 1 by omega) with rfl | rfl <;> rfl) (by decide +kernel) (fun _ hn8 => ?_)
  obtain ⟨b9, heb9⟩ : ∃ z : Nat, z = nb3 := ⟨_, rfl⟩
  rw [← heb9] at hn8 ⊢
  obtain ⟨nb9, henb9⟩ : ∃ z : Nat, z = b9 + 1 := ⟨_, rfl⟩
  rw [← henb9]; clear henb9 heb9
  refine zV_blk (pc' := 23) (lo' := [(9, .ref b3), (7, .long x2), (5, .long x0), (0, .long x0), (2, .long x2), (4, .int x4)]) (st' := [.long 0, .long 1, .ref b9, .ref b9]) [.dup, .lconst 1, .lconst 0] (by decide +kernel) rfl ?_
  obtain ⟨v10, hv10, h⟩ := zbind h
  refine zV_mk (idx := 33) (As := [.long 1, .long 0]) (rest := [.ref b9]) (e := .inr (2, [.long v10.1, .long v10.2])) (fun Q2 hQ2 => ck_newFra s0 D cB cI cJ cD 1 0 b9  v10 hv10  (by simp [va_up]) hQ2) oX2_init rfl (zT_mem 700 (by decide +kernel) rfl) (zT_mem 701 (by decide +kernel) rfl) rfl rfl (Nat.le_of_ble_eq_true rfl) ⟨by decide, by decide⟩ (by decide +kernel) hn8 (fun hi2 hX hc11 => ?_)
  replace ho6 := ho6.mono hX
  replace hXX := hXX.tr hX; clear hX
  have ho12 : iFra hi2 b9 v10 := hc11
  refine zV_blk (pc' := 31) (lo' := [(11, .int 0), (10, .ref b9), (9, .ref b3), (7, .long x2), (5, .long x0), (0, .long x0), (2, .long x2), (4, .int x4)]) (st' := []) [.astore 10, .iconst 0, .istore 11] (by decide +kernel) rfl ?_
  refine zV_pick (lo2 := [(4, .int x4), (5, .long x0), (7, .long x2), (9, .ref b3), (10, .ref b9), (11, .int 0)]) [7, 4, 3, 2, 1, 0] rfl ?_
  exact ck_ofTerms_31L s0 D cB cI cJ cD x4  256 (x0, x2, v4, v10, 0) b3 b9  ho6 ho12 hXX h hQ

