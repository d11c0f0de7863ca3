def k_hasWeekday (x0 : vFrame) (x1 : Int32) : Option (Bool) := (if (x1 : Int32) < (0 : Int32) then some false else (if (x0.2.2.2.2.1 : Int32) ≤ (x1 : Int32) then some false else some true))
theorem oX3_hasWeekday : zO yX3_hasWeekday cX3_hasWeekday 2 (some .boolean) 1 := ⟨zT_mem 1243 (by decide +kernel) rfl, zT_mem 106 (by decide +kernel) rfl, by decide +kernel, by decide +kernel, by decide +kernel⟩
set_option maxHeartbeats 4000000 in
set_option maxRecDepth 100000 in
theorem ck_hasWeekday (s0 : State) (D : va_G) (cB cI cJ cD : ClassId) (x0 : vFrame) (x1 : Int32) (a0 : Nat) (x : Bool) (h : k_hasWeekday x0 x1 = some x) {hi hm : zHp} {nx : Nat} {Q : Option Value → zHp → zHp → Nat → Prop} (ho0 : iFrame cI hi a0 x0) (hQ0 : Q (some (.int (zb x))) hi hm nx) : zM s0 D (zty cB cI cJ cD) yX3_hasWeekday cX3_hasWeekday 2 (some .boolean) 0 0 0 0 [.ref a0, .int x1] hi hm nx Q := by
  have hQ : ∀ r : Bool, x = r → Q (some (.int (zb r))) hi hm nx := fun r hr => by subst hr; exact hQ0
  clear hQ0
  refine zM_of (by decide +kernel) (Nat.le_of_ble_eq_true rfl) ?_
  unfold k_hasWeekday at h
  refine zV_eq (lo2 := [(0, .ref a0), (1, .int x1)]) rfl rfl rfl rfl ?_
  refine zV_blk (pc' := 1) (lo' := [(0, .ref a0), (1, .int x1)]) (st' := [.int x1]) [.iload_n 1] (by decide +kernel) rfl ?_
  refine zV_if_lt (tgt := 16) (off := 15) (by decide +kernel) (by decide) (fun q => ?_) (fun q => ?_)
  · replace h := zif_pos q h
    clear q
    refine zV_blk (pc' := 17) (lo' := [(0, .ref a0), (1, .int x1)]) (st' := [.int 0]) [.iconst 0] (by decide +kernel) rfl ?_
    obtain rfl := Option.some.inj h
    refine zV_eq (st2 := [.int (zb false)]) rfl rfl rfl rfl ?_
    exact zV_bret rfl (by decide +kernel) (hQ _ rfl)
  · replace h := zif_neg q h
    clear q
    refine zV_blk (pc' := 6) (lo' := [(0, .ref a0), (1, .int x1)]) (st' := [.ref a0, .int x1]) [.iload_n 1, .aload_n 0] (by decide +kernel) rfl ?_
    obtain ⟨b1, hc2, hb3⟩ := ho0
    refine zV_get (ci := 3) (idx := 29) (k := 4) (N := 6) (fs := [.int x0.1, .int x0.2.1, .ref b1, .int x0.2.2.2.1, .int x0.2.2.2.2.1, .int x0.2.2.2.2.2]) (v := .int x0.2.2.2.2.1) (Or.inl hc2) rfl z_in3 (by decide) (zT_mem 542 (by decide +kernel) rfl) rfl (by decide +kernel) ?_
    refine zV_icmp_ge (tgt := 16) (off := 7) (by decide +kernel) (by decide) (fun q => ?_) (fun q => ?_)
    · replace h := zif_pos q h
      clear q
      refine zV_blk (pc' := 17) (lo' := [(0, .ref a0), (1, .int x1)]) (st' := [.int 0]) [.iconst 0] (by decide +kernel) rfl ?_
      obtain rfl := Option.some.inj h
      refine zV_eq (st2 := [.int (zb false)]) rfl rfl rfl rfl ?_
      exact zV_bret rfl (by decide +kernel) (hQ _ rfl)
    · replace h := zif_neg q h
      clear q
      refine zV_blk (pc' := 13) (lo' := [(0, .ref a0), (1, .int x1)]) (st' := [.int 1]) [.iconst 1] (by decide +kernel) rfl ?_
      refine zV_goto (tgt := 17) (off := 4) (by decide +kernel) (by decide) ?_
      obtain rfl := Option.some.inj h
      refine zV_eq (st2 := [.int (zb true)]) rfl rfl rfl rfl ?_
      exact zV_bret rfl (by decide +kernel) (hQ _ rfl)

def k_weekdayOf (x0 : vFrame) (x1 : Int64) : Option (Int32) := (j_fmodL (x1 + (x0.2.2.2.2.2 : Int32).toInt64) (x0.2.2.2.2.1 : Int32).toInt64).bind (fun v4 => some (v4 : Int64).toInt32)
theorem oX3_weekdayOf : zO yX3_weekdayOf cX3_weekdayOf 3 (some .int) 1 := ⟨zT_mem 1083 (by decide +kernel) rfl, zT_mem 106 (by decide +kernel) rfl, by decide +kernel, by decide +kernel, by decide +kernel⟩
set_option maxHeartbeats 4000000 in
set_option maxRecDepth 100000 in
theorem ck_weekdayOf (s0 : State) (D : va_G) (cB cI cJ cD : ClassId) (x0 : vFrame) (x1 : Int64) (a0 : Nat) (x : Int32) (h : k_weekdayOf x0 x1 = some x) {hi hm : zHp} {nx : Nat} {Q : Option Value → zHp → zHp → Nat → Prop} (ho0 : iFrame cI hi a0 x0) (hQ0 : Q (some (.int x)) hi hm nx) : zM s0 D (zty cB cI cJ cD) yX3_weekdayOf cX3_weekdayOf 3 (some .int) 1 25 0 0 [.ref a0, .long x1] hi hm nx Q := by
  have hQ : ∀ r : Int32, x = r → Q (some (.int r)) hi hm nx := fun r hr => by subst hr; exact hQ0
  clear hQ0
  refine zM_of (by decide +kernel) (Nat.le_of_ble_eq_true rfl) ?_
  unfold k_weekdayOf at h
  refine zV_eq (lo2 := [(0, .ref a0), (1, .long x1)]) rfl rfl rfl rfl ?_
  refine zV_blk (pc' := 2) (lo' := [(0, .ref a0), (1, .long x1)]) (st' := [.ref a0, .long x1]) [.lload_n 1, .aload_n 0] (by decide +kernel) rfl ?_
  obtain ⟨b1, hc2, hb3⟩ := ho0
  refine zV_get (ci := 3) (idx := 32) (k := 5) (N := 6) (fs := [.int x0.1, .int x0.2.1, .ref b1, .int x0.2.2.2.1, .int x0.2.2.2.2.1, .int x0.2.2.2.2.2]) (v := .int x0.2.2.2.2.2) (Or.inl hc2) rfl z_in3 (by decide) (zT_mem 544 (by decide +kernel) rfl) rfl (by decide +kernel) ?_
  refine zV_blk (pc' := 8) (lo' := [(0, .ref a0), (1, .long x1)]) (st' := [.ref a0, .long (x1 + (x0.2.2.2.2.2 : Int32).toInt64)]) [.i2l, .ladd, .aload_n 0] (by decide +kernel) rfl ?_
  refine zV_get (ci := 3) (idx := 29) (k := 4) (N := 6) (fs := [.int x0.1, .int x0.2.1, .ref b1, .int x0.2.2.2.1, .int x0.2.2.2.2.1, .int x0.2.2.2.2.2]) (v := .int x0.2.2.2.2.1) (Or.inl hc2) rfl z_in3 (by decide) (zT_mem 542 (by decide +kernel) rfl) rfl (by decide +kernel) ?_
  refine zV_blk (pc' := 12) (lo' := [(0, .ref a0), (1, .long x1)]) (st' := [.long (x0.2.2.2.2.1 : Int32).toInt64, .long (x1 + (x0.2.2.2.2.2 : Int32).toInt64)]) [.i2l] (by decide +kernel) rfl ?_
  obtain ⟨v4, hv4, h⟩ := zbind h
  refine zV_roS (idx := 43) (rest := []) (fun Q2 hQ2 => cj_fmodL s0 D cB cI cJ cD (x1 + (x0.2.2.2.2.2 : Int32).toInt64) (x0.2.2.2.2.1 : Int32).toInt64  v4 hv4  hQ2) oJ9_floorMod_f86c9 (zT_mem 1084 (by decide +kernel) rfl) (zT_mem 1085 (by decide +kernel) rfl) rfl rfl (Nat.le_of_ble_eq_true rfl) ⟨by decide, by decide⟩ (by decide +kernel) ?_
  refine zV_eq (st2 := [.long v4]) rfl rfl rfl rfl ?_
  refine zV_blk (pc' := 16) (lo' := [(0, .ref a0), (1, .long x1)]) (st' := [.int (v4 : Int64).toInt32]) [.l2i] (by decide +kernel) rfl ?_
  obtain rfl := Option.some.inj h
  exact zV_iret rfl (by decide +kernel) (hQ _ rfl)

def k_unitsOfDay (x0 : vTrue) : Option (Int64) := some ((x0.2.2.1 : Int32).toInt64 * (x0.2.2.2.2 : Int32).toInt64)
theorem oX10_unitsOfDay : zO yX10_unitsOfDay cX10_unitsOfDay 1 (some .long) 0 := ⟨zT_mem 1129 (by decide +kernel) rfl, zT_mem 99 (by decide +kernel) rfl, by decide +kernel, by decide +kernel, by decide +kernel⟩
set_option maxHeartbeats 4000000 in
set_option maxRecDepth 100000 in
theorem ck_unitsOfDay (s0 : State) (D : va_G) (cB cI cJ cD : ClassId) (x0 : vTrue) (a0 : Nat) (x : Int64) (h : k_unitsOfDay x0 = some x) {hi hm : zHp} {nx : Nat} {Q : Option Value → zHp → zHp → Nat → Prop} (ho0 : iTrue hi a0 x0) (hQ0 : Q (some (.long x)) hi hm nx) : zM s0 D (zty cB cI cJ cD) yX10_unitsOfDay cX10_unitsOfDay 1 (some .long) 0 0 0 0 [.ref a0] hi hm nx Q := by
  have hQ : ∀ r : Int64, x = r → Q (some (.long r)) hi hm nx := fun r hr => by subst hr; exact hQ0
  clear hQ0
  refine zM_of (by decide +kernel) (Nat.le_of_ble_eq_true rfl) ?_
  unfold k_unitsOfDay at h
  refine zV_eq (lo2 := [(0, .ref a0)]) rfl rfl rfl rfl ?_
  refine zV_blk (pc' := 1) (lo' := [(0, .ref a0)]) (st' := [.ref a0]) [.aload_n 0] (by decide +kernel) rfl ?_
  refine zV_get (ci := 10) (idx := 22) (k := 2) (N := 5) (fs := [.int x0.1, .int x0.2.1, .int x0.2.2.1, .int x0.2.2.2.1, .int x0.2.2.2.2]) (v := .int x0.2.2.1) (Or.inl ho0) rfl z_in10 (by decide) (zT_mem 281 (by decide +kernel) rfl) rfl (by decide +kernel) ?_
  refine zV_blk (pc' := 6) (lo' := [(0, .ref a0)]) (st' := [.ref a0, .long (x0.2.2.1 : Int32).toInt64]) [.i2l, .aload_n 0] (by decide +kernel) rfl ?_
  refine zV_get (ci := 10) (idx := 28) (k := 4) (N := 5) (fs := [.int x0.1, .int x0.2.1, .int x0.2.2.1, .int x0.2.2.2.1, .int x0.2.2.2.2]) (v := .int x0.2.2.2.2) (Or.inl ho0) rfl z_in10 (by decide) (zT_mem 285 (by decide +kernel) rfl) rfl (by decide +kernel) ?_
  refine zV_blk (pc' := 11) (lo' := [(0, .ref a0)]) (st' := [.long ((x0.2.2.1 : Int32).toInt64 * (x0.2.2.2.2 : Int32).toInt64)]) [.i2l, .lmul] (by decide +kernel) rfl ?_
  obtain rfl := Option.some.inj h
  exact zV_lret rfl (by decide +kernel) (hQ _ rfl)

def k_unitsOfYear (x0 : vTrue) : Option (Int64) := some ((((x0.1 : Int32).toInt64 * (x0.2.2.1 : Int32).toInt64) + (x0.2.1 : Int32).toInt64) * (x0.2.2.2.2 : Int32).toInt64)
theorem oX10_unitsOfYear : zO yX10_unitsOfYear cX10_unitsOfYear 1 (some .long) 0 := ⟨zT_mem 1133 (by decide +kernel) rfl, zT_mem 99 (by decide +kernel) rfl, by decide +kernel, by decide +kernel, by decide +kernel⟩
set_option maxHeartbeats 4000000 in
set_option maxRecDepth 100000 in
theorem ck_unitsOfYear (s0 : State) (D : va_G) (cB cI cJ cD : ClassId) (x0 : vTrue) (a0 : Nat) (x : Int64) (h : k_unitsOfYear x0 = some x) {hi hm : zHp} {nx : Nat} {Q : Option Value → zHp → zHp → Nat → Prop} (ho0 : iTrue hi a0 x0) (hQ0 : Q (some (.long x)) hi hm nx) : zM s0 D (zty cB cI cJ cD) yX10_unitsOfYear cX10_unitsOfYear 1 (some .long) 0 0 0 0 [.ref a0] hi hm nx Q := by
  have hQ : ∀ r : Int64, x = r → Q (some (.long r)) hi hm nx := fun r hr => by subst hr; exact hQ0
  clear hQ0
  refine zM_of (by decide +kernel) (Nat.le_of_ble_eq_true rfl) ?_
  unfold k_unitsOfYear at h
  refine zV_eq (lo2 := [(0, .ref a0)]) rfl rfl rfl rfl ?_
  refine zV_blk (pc' := 1) (lo' := [(0, .ref a0)]) (st' := [.ref a0]) [.aload_n 0] (by decide +kernel) rfl ?_
  refine zV_get (ci := 10) (idx := 7) (k := 0) (N := 5) (fs := [.int x0.1, .int x0.2.1, .int x0.2.2.1, .int x0.2.2.2.1, .int x0.2.2.2.2]) (v := .int x0.1) (Or.inl ho0) rfl z_in10 (by decide) (zT_mem 277 (by decide +kernel) rfl) rfl (by decide +kernel) ?_
  refine zV_blk (pc' := 6) (lo' := [(0, .ref a0)]) (st' := [.ref a0, .long (x0.1 : Int32).toInt64]) [.i2l, .aload_n 0] (by decide +kernel) rfl ?_
  refine zV_get (ci := 10) (idx := 22) (k := 2) (N := 5) (fs := [.int x0.1, .int x0.2.1, .int x0.2.2.1, .int x0.2.2.2.1, .int x0.2.2.2.2]) (v := .int x0.2.2.1) (Or.inl ho0) rfl z_in10 (by decide) (zT_mem 281 (by decide +kernel) rfl) rfl (by decide +kernel) ?_
  refine zV_blk (pc' := 12) (lo' := [(0, .ref a0)]) (st' := [.ref a0, .long ((x0.1 : Int32).toInt64 * (x0.2.2.1 : Int32).toInt64)]) [.i2l, .lmul, .aload_n 0] (by decide +kernel) rfl ?_
  refine zV_get (ci := 10) (idx := 13) (k := 1) (N := 5) (fs := [.int x0.1, .int x0.2.1, .int x0.2.2.1, .int x0.2.2.2.1, .int x0.2.2.2.2]) (v := .int x0.2.1) (Or.inl ho0) rfl z_in10 (by decide) (zT_mem 279 (by decide +kernel) rfl) rfl (by decide +kernel) ?_
  refine zV_blk (pc' := 18) (lo' := [(0, .ref a0)]) (st' := [.ref a0, .long (((x0.1 : Int32).toInt64 * (x0.2.2.1 : Int32).toInt64) + (x0.2.1 : Int32).toInt64)]) [.i2l, .ladd, .aload_n 0] (by decide +kernel) rfl ?_
  refine zV_get (ci := 10) (idx := 28) (k := 4) (N := 5) (fs := [.int x0.1, .int x0.2.1, .int x0.2.2.1, .int x0.2.2.2.1, .int x0.2.2.2.2]) (v := .int x0.2.2.2.2) (Or.inl ho0) rfl z_in10 (by decide) (zT_mem 285 (by decide +kernel) rfl) rfl (by decide +kernel) ?_
  refine zV_blk (pc' := 23) (lo' := [(0, .ref a0)]) (st' := [.long ((((x0.1 : Int32).toInt64 * (x0.2.2.1 : Int32).toInt64) + (x0.2.1 : Int32).toInt64) * (x0.2.2.2.2 : Int32).toInt64)]) [.i2l, .lmul] (by decide +kernel) rfl ?_
  obtain rfl := Option.some.inj h
  exact zV_lret rfl (by decide +kernel) (hQ _ rfl)

def k_beginUnits (x0 : vTrue) : Option (Int64) := some ((x0.2.2.2.1 : Int32).toInt64 * (x0.2.2.1 : Int32).toInt64)
theorem oX10_beginUnits : zO yX10_beginUnits cX10_beginUnits 1 (some .long) 0 := ⟨zT_mem 1137 (by decide +kernel) rfl, zT_mem 99 (by decide +kernel) rfl, by decide +kernel, by decide +kernel, by decide +kernel⟩
set_option maxHeartbeats 4000000 in
set_option maxRecDepth 100000 in
theorem ck_beginUnits (s0 : State) (D : va_G) (cB cI cJ cD : ClassId) (x0 : vTrue) (a0 : Nat) (x : Int64) (h : k_beginUnits x0 = some x) {hi hm : zHp} {nx : Nat} {Q : Option Value → zHp → zHp → Nat → Prop} (ho0 : iTrue hi a0 x0) (hQ0 : Q (some (.long x)) hi hm nx) : zM s0 D (zty cB cI cJ cD) yX10_beginUnits cX10_beginUnits 1 (some .long) 0 0 0 0 [.ref a0] hi hm nx Q := by
  have hQ : ∀ r : Int64, x = r → Q (some (.long r)) hi hm nx := fun r hr => by subst hr; exact hQ0
  clear hQ0
  refine zM_of (by decide +kernel) (Nat.le_of_ble_eq_true rfl) ?_
  unfold k_beginUnits at h
  refine zV_eq (lo2 := [(0, .ref a0)]) rfl rfl rfl rfl ?_
  refine zV_blk (pc' := 1) (lo' := [(0, .ref a0)]) (st' := [.ref a0]) [.aload_n 0] (by decide +kernel) rfl ?_
  refine zV_get (ci := 10) (idx := 25) (k := 3) (N := 5) (fs := [.int x0.1, .int x0.2.1, .int x0.2.2.1, .int x0.2.2.2.1, .int x0.2.2.2.2]) (v := .int x0.2.2.2.1) (Or.inl ho0) rfl z_in10 (by decide) (zT_mem 284 (by decide +kernel) rfl) rfl (by decide +kernel) ?_
  refine zV_blk (pc' := 6) (lo' := [(0, .ref a0)]) (st' := [.ref a0, .long (x0.2.2.2.1 : Int32).toInt64]) [.i2l, .aload_n 0] (by decide +kernel) rfl ?_
  refine zV_get (ci := 10) (idx := 22) (k := 2) (N := 5) (fs := [.int x0.1, .int x0.2.1, .int x0.2.2.1, .int x0.2.2.2.1, .int x0.2.2.2.2]) (v := .int x0.2.2.1) (Or.inl ho0) rfl z_in10 (by decide) (zT_mem 281 (by decide +kernel) rfl) rfl (by decide +kernel) ?_
  refine zV_blk (pc' := 11) (lo' := [(0, .ref a0)]) (st' := [.long ((x0.2.2.2.1 : Int32).toInt64 * (x0.2.2.1 : Int32).toInt64)]) [.i2l, .lmul] (by decide +kernel) rfl ?_
  obtain rfl := Option.some.inj h
  exact zV_lret rfl (by decide +kernel) (hQ _ rfl)

def k_sort_None : Option (Int32) := some 0
theorem oX6_sort : zO yX6_sort cX6_sort 1 (some .int) 0 := ⟨zT_mem 620 (by decide +kernel) rfl, zT_mem 98 (by decide +kernel) rfl, by decide +kernel, by decide +kernel, by decide +kernel⟩
set_option maxHeartbeats 4000000 in
set_option maxRecDepth 100000 in
theorem ck_sort_None (s0 : State) (D : va_G) (cB cI cJ cD : ClassId) (a0 : Nat) (x : Int32) (h : k_sort_None  = some x) {hi hm : zHp} {nx : Nat} {Q : Option Value → zHp → zHp → Nat → Prop} (ho0 : iNone hi a0) (hQ0 : Q (some (.int x)) hi hm nx) : zM s0 D (zty cB cI cJ cD) yX6_sort cX6_sort 1 (some .int) 0 0 0 0 [.ref a0] hi hm nx Q := by
  have hQ : ∀ r : Int32, x = r → Q (some (.int r)) hi hm nx := fun r hr => by subst hr; exact hQ0
  clear hQ0
  refine zM_of (by decide +kernel) (Nat.le_of_ble_eq_true rfl) ?_
  unfold k_sort_None at h
  refine zV_eq (lo2 := [(0, .ref a0)]) rfl rfl rfl rfl ?_
  refine zV_blk (pc' := 1) (lo' := [(0, .ref a0)]) (st' := [.int 0]) [.iconst 0] (by decide +kernel) rfl ?_
  obtain rfl := Option.some.inj h
  exact zV_iret rfl (by decide +kernel) (hQ _ rfl)

def k_sort_Even (x0 : vEven) : Option (Int32) := some 1
theorem oX1_sort : zO yX1_sort cX1_sort 1 (some .int) 0 := ⟨zT_mem 613 (by decide +kernel) rfl, zT_mem 102 (by decide +kernel) rfl, by decide +kernel, by decide +kernel, by decide +kernel⟩
set_option maxHeartbeats 4000000 in
set_option maxRecDepth 100000 in
theorem ck_sort_Even (s0 : State) (D : va_G) (cB cI cJ cD : ClassId) (x0 : vEven) (a0 : Nat) (x : Int32) (h : k_sort_Even x0 = some x) {hi hm : zHp} {nx : Nat} {Q : Option Value → zHp → zHp → Nat → Prop} (ho0 : iEven hi a0 x0) (hQ0 : Q (some (.int x)) hi hm nx) : zM s0 D (zty cB cI cJ cD) yX1_sort cX1_sort 1 (some .int) 0 0 0 0 [.ref a0] hi hm nx Q := by
  have hQ : ∀ r : Int32, x = r → Q (some (.int r)) hi hm nx := fun r hr => by subst hr; exact hQ0
  clear hQ0
  refine zM_of (by decide +kernel) (Nat.le_of_ble_eq_true rfl) ?_
  unfold k_sort_Even at h
  refine zV_eq (lo2 := [(0, .ref a0)]) rfl rfl rfl rfl ?_
  refine zV_blk (pc' := 1) (lo' := [(0, .ref a0)]) (st' := [.int 1]) [.iconst 1] (by decide +kernel) rfl ?_
  obtain rfl := Option.some.inj h
  exact zV_iret rfl (by decide +kernel) (hQ _ rfl)

def k_sort_Ladder (x0 : vArr) : Option (Int32) := some 2
theorem oX5_sort : zO yX5_sort cX5_sort 1 (some .int) 0 := ⟨zT_mem 616 (by decide +kernel) rfl, zT_mem 103 (by decide +kernel) rfl, by decide +kernel, by decide +kernel, by decide +kernel⟩
set_option maxHeartbeats 4000000 in
set_option maxRecDepth 100000 in
theorem ck_sort_Ladder (s0 : State) (D : va_G) (cB cI cJ cD : ClassId) (x0 : vArr) (a0 : Nat) (x : Int32) (h : k_sort_Ladder x0 = some x) {hi hm : zHp} {nx : Nat} {Q : Option Value → zHp → zHp → Nat → Prop} (ho0 : iLadder cI hi a0 x0) (hQ0 : Q (some (.int x)) hi hm nx) : zM s0 D (zty cB cI cJ cD) yX5_sort cX5_sort 1 (some .int) 0 0 0 0 [.ref a0] hi hm nx Q := by
  have hQ : ∀ r : Int32, x = r → Q (some (.int r)) hi hm nx := fun r hr => by subst hr; exact hQ0
  clear hQ0
  refine zM_of (by decide +kernel) (Nat.le_of_ble_eq_true rfl) ?_
  unfold k_sort_Ladder at h
  refine zV_eq (lo2 := [(0, .ref a0)]) rfl rfl rfl rfl ?_
  refine zV_blk (pc' := 1) (lo' := [(0, .ref a0)]) (st' := [.int 2]) [.iconst 2] (by decide +kernel) rfl ?_
  obtain rfl := Option.some.inj h
  exact zV_iret rfl (by decide +kernel) (hQ _ rfl)

def k_sort_Row (x0 : vRow) : Option (Int32) := some 3
theorem oX8_sort : zO yX8_sort cX8_sort 1 (some .int) 0 := ⟨zT_mem 619 (by decide +kernel) rfl, zT_mem 104 (by decide +kernel) rfl, by decide +kernel, by decide +kernel, by decide +kernel⟩
set_option maxHeartbeats 4000000 in
set_option maxRecDepth 100000 in
theorem ck_sort_Row (s0 : State) (D : va_G) (cB cI cJ cD : ClassId) (x0 : vRow) (a0 : Nat) (x : Int32) (h : k_sort_Row x0 = some x) {hi hm : zHp} {nx : Nat} {Q : Option Value → zHp → zHp → Nat → Prop} (ho0 : iRow cI hi a0 x0) (hQ0 : Q (some (.int x)) hi hm nx) : zM s0 D (zty cB cI cJ cD) yX8_sort cX8_sort 1 (some .int) 0 0 0 0 [.ref a0] hi hm nx Q := by
  have hQ : ∀ r : Int32, x = r → Q (some (.int r)) hi hm nx := fun r hr => by subst hr; exact hQ0
  clear hQ0
  refine zM_of (by decide +kernel) (Nat.le_of_ble_eq_true rfl) ?_
  unfold k_sort_Row at h
  refine zV_eq (lo2 := [(0, .ref a0)]) rfl rfl rfl rfl ?_
  refine zV_blk (pc' := 1) (lo' := [(0, .ref a0)]) (st' := [.int 3]) [.iconst 3] (by decide +kernel) rfl ?_
  obtain rfl := Option.some.inj h
  exact zV_iret rfl (by decide +kernel) (hQ _ rfl)

def d_sort (v : vLaw) : Option Int32 := match v with
  | .inl _ => k_sort_None 
  | .inr (.inl v) => k_sort_Even v 
  | .inr (.inr (.inl v)) => k_sort_Ladder v 
  | .inr (.inr (.inr v)) => k_sort_Row v 
set_option maxHeartbeats 4000000 in
set_option maxRecDepth 100000 in
theorem dc_sort (s0 : State) (D : va_G) (cB cI cJ cD : ClassId) (v : vLaw) (b : Nat) (r : Int32) (h : d_sort v  = some r) {y : MethodName} {cc : ByteArray} {nL : Nat} {ret : Option FieldType} {rF rL mc ms pc idx : Nat} {lo : List (Nat × Value)} {st rest : List Value} {hi hm : zHp} {nx : Nat} {Q : Option Value → zHp → zHp → Nat → Prop} (hb : iLaw cI hi b v) (hlink : Cond.methodLink y.cls idx yX6_sort ∈ zT) (hst : st = ([] : List Value).reverse ++ .ref b :: rest) (hrest : (rest.map fun v => v.category).sum ≤ 8) (hR : 0 + 1 ≤ rF ∧ 19 + 1 ≤ rL) (hd : decode cc pc = .ok (.invokevirtual idx, 3)) (k : zV s0 D (zty cB cI cJ cD) y cc nL ret rF rL mc ms (pc + 3) lo (.int r :: rest) hi hm nx Q) : zV s0 D (zty cB cI cJ cD) y cc nL ret rF rL mc ms pc lo st hi hm nx Q := by
  rcases v with ⟨⟩ | v | v | v
  · have hk := hb
    exact zV_roV (idx := idx) (rest := rest) (ci := 6) (fun Q2 hQ2 => ck_sort_None s0 D cB cI cJ cD  b r h hb hQ2) oX6_sort (Or.inl hk) rfl hlink (zT_mem 608 (by decide +kernel) rfl) (zT_mem 609 (by decide +kernel) rfl) rfl hst hrest ⟨by omega, by omega⟩ hd k
  · have hk := hb
    exact zV_roU (x := yX6_sort) (owner := RX6) (C := RX1) (idx := idx) (rest := rest) (ci := 1) (b0 := cX6_sort) (m0 := 1) (r0 := some .int) (fun Q2 hQ2 => ck_sort_Even s0 D cB cI cJ cD v  b r h hb hQ2) oX1_sort (Or.inl hk) rfl hlink (zT_mem 610 (by decide +kernel) rfl) (zT_mem 608 (by decide +kernel) rfl) (zT_mem 611 (by decide +kernel) rfl) (zT_mem 612 (by decide +kernel) rfl) (zT_mem 620 (by decide +kernel) rfl) ⟨by decide +kernel, by decide +kernel, by decide +kernel⟩ rfl hst hrest ⟨by omega, by omega⟩ hd k
  · obtain ⟨_, hk, _⟩ := id hb
    exact zV_roU (x := yX6_sort) (owner := RX6) (C := RX5) (idx := idx) (rest := rest) (ci := 5) (b0 := cX6_sort) (m0 := 1) (r0 := some .int) (fun Q2 hQ2 => ck_sort_Ladder s0 D cB cI cJ cD v  b r h hb hQ2) oX5_sort (Or.inl hk) rfl hlink (zT_mem 610 (by decide +kernel) rfl) (zT_mem 608 (by decide +kernel) rfl) (zT_mem 614 (by decide +kernel) rfl) (zT_mem 615 (by decide +kernel) rfl) (zT_mem 620 (by decide +kernel) rfl) ⟨by decide +kernel, by decide +kernel, by decide +kernel⟩ rfl hst hrest ⟨by omega, by omega⟩ hd k
  · obtain ⟨_, hk, _⟩ := id hb
    exact zV_roU (x := yX6_sort) (owner := RX6) (C := RX8) (idx := idx) (rest := rest) (ci := 8) (b0 := cX6_sort) (m0 := 1) (r0 := some .int) (fun Q2 hQ2 => ck_sort_Row s0 D cB cI cJ cD v  b r h hb hQ2) oX8_sort (Or.inl hk) rfl hlink (zT_mem 610 (by decide +kernel) rfl) (zT_mem 608 (by decide +kernel) rfl) (zT_mem 617 (by decide +kernel) rfl) (zT_mem 618 (by decide +kernel) rfl) (zT_mem 620 (by decide +kernel) rfl) ⟨by decide +kernel, by decide +kernel, by decide +kernel⟩ rfl hst hrest ⟨by omega, by omega⟩ hd k

def k_cycle_None : Option (Int32) := some 1
theorem oX6_cycle : zO yX6_cycle cX6_cycle 1 (some .int) 0 := ⟨zT_mem 594 (by decide +kernel) rfl, zT_mem 98 (by decide +kernel) rfl, by decide +kernel, by decide +kernel, by decide +kernel⟩
set_option maxHeartbeats 4000000 in
set_option maxRecDepth 100000 in
theorem ck_cycle_None (s0 : State) (D : va_G) (cB cI cJ cD : ClassId) (a0 : Nat) (x : Int32) (h : k_cycle_None  = some x) {hi hm : zHp} {nx : Nat} {Q : Option Value → zHp → zHp → Nat → Prop} (ho0 : iNone hi a0) (hQ0 : Q (some (.int x)) hi hm nx) : zM s0 D (zty cB cI cJ cD) yX6_cycle cX6_cycle 1 (some .int) 0 0 0 0 [.ref a0] hi hm nx Q := by
  have hQ : ∀ r : Int32, x = r → Q (some (.int r)) hi hm nx := fun r hr => by subst hr; exact hQ0
  clear hQ0
  refine zM_of (by decide +kernel) (Nat.le_of_ble_eq_true rfl) ?_
  unfold k_cycle_None at h
  refine zV_eq (lo2 := [(0, .ref a0)]) rfl rfl rfl rfl ?_
  refine zV_blk (pc' := 1) (lo' := [(0, .ref a0)]) (st' := [.int 1]) [.iconst 1] (by decide +kernel) rfl ?_
  obtain rfl := Option.some.inj h
  exact zV_iret rfl (by decide +kernel) (hQ _ rfl)

def k_cycle_Even (x0 : vEven) : Option (Int32) := some x0.2.1
theorem oX1_cycle : zO yX1_cycle cX1_cycle 1 (some .int) 0 := ⟨zT_mem 587 (by decide +kernel) rfl, zT_mem 102 (by decide +kernel) rfl, by decide +kernel, by decide +kernel, by decide +kernel⟩
set_option maxHeartbeats 4000000 in
set_option maxRecDepth 100000 in
theorem ck_cycle_Even (s0 : State) (D : va_G) (cB cI cJ cD : ClassId) (x0 : vEven) (a0 : Nat) (x : Int32) (h : k_cycle_Even x0 = some x) {hi hm : zHp} {nx : Nat} {Q : Option Value → zHp → zHp → Nat → Prop} (ho0 : iEven hi a0 x0) (hQ0 : Q (some (.int x)) hi hm nx) : zM s0 D (zty cB cI cJ cD) yX1_cycle cX1_cycle 1 (some .int) 0 0 0 0 [.ref a0] hi hm nx Q := by
  have hQ : ∀ r : Int32, x = r → Q (some (.int r)) hi hm nx := fun r hr => by subst hr; exact hQ0
  clear hQ0
  refine zM_of (by decide +kernel) (Nat.le_of_ble_eq_true rfl) ?_
  unfold k_cycle_Even at h
  refine zV_eq (lo2 := [(0, .ref a0)]) rfl rfl rfl rfl ?_
  refine zV_blk (pc' := 1) (lo' := [(0, .ref a0)]) (st' := [.ref a0]) [.aload_n 0] (by decide +kernel) rfl ?_
  refine zV_get (ci := 1) (idx := 19) (k := 1) (N := 3) (fs := [.int x0.1, .int x0.2.1, .int x0.2.2]) (v := .int x0.2.1) (Or.inl ho0) rfl z_in1 (by decide) (zT_mem 440 (by decide +kernel) rfl) rfl (by decide +kernel) ?_
  obtain rfl := Option.some.inj h
  exact zV_iret rfl (by decide +kernel) (hQ _ rfl)

def k_cycle_Ladder (x0 : vArr) : Option (Int32) := (if ((nI x0.1) : Int32) = (0 : Int32) then some 1 else zck (zin (((nI x0.1) - 1)) x0.1) (some (x0.2 (((nI x0.1) - 1) : Int32).toNatClampNeg)))
theorem oX5_cycle : zO yX5_cycle cX5_cycle 1 (some .int) 0 := ⟨zT_mem 590 (by decide +kernel) rfl, zT_mem 103 (by decide +kernel) rfl, by decide +kernel, by decide +kernel, by decide +kernel⟩
set_option maxHeartbeats 4000000 in
set_option maxRecDepth 100000 in
theorem ck_cycle_Ladder (s0 : State) (D : va_G) (cB cI cJ cD : ClassId) (x0 : vArr) (a0 : Nat) (x : Int32) (h : k_cycle_Ladder x0 = some x) {hi hm : zHp} {nx : Nat} {Q : Option Value → zHp → zHp → Nat → Prop} (ho0 : iLadder cI hi a0 x0) (hQ0 : Q (some (.int x)) hi hm nx) : zM s0 D (zty cB cI cJ cD) yX5_cycle cX5_cycle 1 (some .int) 0 0 0 0 [.ref a0] hi hm nx Q := by
  have hQ : ∀ r : Int32, x = r → Q (some (.int r)) hi hm nx := fun r hr => by subst hr; exact hQ0
  clear hQ0
  refine zM_of (by decide +kernel) (Nat.le_of_ble_eq_true rfl) ?_
  unfold k_cycle_Ladder at h
  refine zV_eq (lo2 := [(0, .ref a0)]) rfl rfl rfl rfl ?_
  refine zV_blk (pc' := 1) (lo' := [(0, .ref a0)]) (st' := [.ref a0]) [.aload_n 0] (by decide +kernel) rfl ?_
  obtain ⟨b1, hc2, hb3⟩ := ho0
  refine zV_get (ci := 5) (idx := 7) (k := 0) (N := 1) (fs := [.ref b1]) (v := .ref b1) (Or.inl hc2) rfl z_in5 (by decide) (zT_mem 471 (by decide +kernel) rfl) rfl (by decide +kernel) ?_
  refine zV_alen 1 (Or.inl hb3) rfl (by decide +kernel) ?_
  refine zV_if_ne (tgt := 12) (off := 7) (by decide +kernel) (by decide) (fun q => ?_) (fun q => ?_)
  · replace h := zif_neg q h
    clear q
    refine zV_blk (pc' := 13) (lo' := [(0, .ref a0)]) (st' := [.ref a0]) [.aload_n 0] (by decide +kernel) rfl ?_
    refine zV_get (ci := 5) (idx := 7) (k := 0) (N := 1) (fs := [.ref b1]) (v := .ref b1) (Or.inl hc2) rfl z_in5 (by decide) (zT_mem 471 (by decide +kernel) rfl) rfl (by decide +kernel) ?_
    refine zV_blk (pc' := 17) (lo' := [(0, .ref a0)]) (st' := [.ref a0, .ref b1]) [.aload_n 0] (by decide +kernel) rfl ?_
    refine zV_get (ci := 5) (idx := 7) (k := 0) (N := 1) (fs := [.ref b1]) (v := .ref b1) (Or.inl hc2) rfl z_in5 (by decide) (zT_mem 471 (by decide +kernel) rfl) rfl (by decide +kernel) ?_
    refine zV_alen 1 (Or.inl hb3) rfl (by decide +kernel) ?_
    refine zV_blk (pc' := 23) (lo' := [(0, .ref a0)]) (st' := [.int ((nI x0.1) - 1), .ref b1]) [.iconst 1, .isub] (by decide +kernel) rfl ?_
    obtain ⟨hz, h⟩ := zck_some h
    refine zV_iald 1 (Or.inl hb3) rfl (zin_in hz) (by decide +kernel) ?_
    obtain rfl := Option.some.inj h
    exact zV_iret rfl (by decide +kernel) (hQ _ rfl)
  · replace h := zif_pos q h
    clear q
    refine zV_blk (pc' := 9) (lo' := [(0, .ref a0)]) (st' := [.int 1]) [.iconst 1] (by decide +kernel) rfl ?_
    refine zV_goto (tgt := 24) (off := 15) (by decide +kernel) (by decide) ?_
    obtain rfl := Option.some.inj h
    exact zV_iret rfl (by decide +kernel) (hQ _ rfl)

def k_cycle_Row (x0 : vRow) : Option (Int32) := some x0.2
theorem oX8_cycle : zO yX8_cycle cX8_cycle 1 (some .int) 0 := ⟨zT_mem 593 (by decide +kernel) rfl, zT_mem 104 (by decide +kernel) rfl, by decide +kernel, by decide +kernel, by decide +kernel⟩
set_option maxHeartbeats 4000000 in
set_option maxRecDepth 100000 in
theorem ck_cycle_Row (s0 : State) (D : va_G) (cB cI cJ cD : ClassId) (x0 : vRow) (a0 : Nat) (x : Int32) (h : k_cycle_Row x0 = some x) {hi hm : zHp} {nx : Nat} {Q : Option Value → zHp → zHp → Nat → Prop} (ho0 : iRow cI hi a0 x0) (hQ0 : Q (some (.int x)) hi hm nx) : zM s0 D (zty cB cI cJ cD) yX8_cycle cX8_cycle 1 (some .int) 0 0 0 0 [.ref a0] hi hm nx Q := by
  have hQ : ∀ r : Int32, x = r → Q (some (.int r)) hi hm nx := fun r hr => by subst hr; exact hQ0
  clear hQ0
  refine zM_of (by decide +kernel) (Nat.le_of_ble_eq_true rfl) ?_
  unfold k_cycle_Row at h
  refine zV_eq (lo2 := [(0, .ref a0)]) rfl rfl rfl rfl ?_
  refine zV_blk (pc' := 1) (lo' := [(0, .ref a0)]) (st' := [.ref a0]) [.aload_n 0] (by decide +kernel) rfl ?_
  obtain ⟨b1, hc2, hb3⟩ := ho0
  refine zV_get (ci := 8) (idx := 13) (k := 1) (N := 2) (fs := [.ref b1, .int x0.2]) (v := .int x0.2) (Or.inl hc2) rfl z_in8 (by decide) (zT_mem 487 (by decide +kernel) rfl) rfl (by decide +kernel) ?_
  obtain rfl := Option.some.inj h
  exact zV_iret rfl (by decide +kernel) (hQ _ rfl)

def d_cycle (v : vLaw) : Option Int32 := match v with
  | .inl _ => k_cycle_None 
  | .inr (.inl v) => k_cycle_Even v 
  | .inr (.inr (.inl v)) => k_cycle_Ladder v 
  | .inr (.inr (.inr v)) => k_cycle_Row v 
set_option maxHeartbeats 4000000 in
set_option maxRecDepth 100000 in
theorem dc_cycle (s0 : State) (D : va_G) (cB cI cJ cD : ClassId) (v : vLaw) (b : Nat) (r : Int32) (h : d_cycle v  = some r) {y : MethodName} {cc : ByteArray} {nL : Nat} {ret : Option FieldType} {rF rL mc ms pc idx : Nat} {lo : List (Nat × Value)} {st rest : List Value} {hi hm : zHp} {nx : Nat} {Q : Option Value → zHp → zHp → Nat → Prop} (hb : iLaw cI hi b v) (hlink : Cond.methodLink y.cls idx yX6_cycle ∈ zT) (hst : st = ([] : List Value).reverse ++ .ref b :: rest) (hrest : (rest.map fun v => v.category).sum ≤ 8) (hR : 0 + 1 ≤ rF ∧ 19 + 1 ≤ rL) (hd : decode cc pc = .ok (.invokevirtual idx, 3)) (k : zV s0 D (zty cB cI cJ cD) y cc nL ret rF rL mc ms (pc + 3) lo (.int r :: rest) hi hm nx Q) : zV s0 D (zty cB cI cJ cD) y cc nL ret rF rL mc ms pc lo st hi hm nx Q := by
  rcases v with ⟨⟩ | v | v | v
  · have hk := hb
    exact zV_roV (idx := idx) (rest := rest) (ci := 6) (fun Q2 hQ2 => ck_cycle_None s0 D cB cI cJ cD  b r h hb hQ2) oX6_cycle (Or.inl hk) rfl hlink (zT_mem 582 (by decide +kernel) rfl) (zT_mem 583 (by decide +kernel) rfl) rfl hst hrest ⟨by omega, by omega⟩ hd k
  · have hk := hb
    exact zV_roU (x := yX6_cycle) (owner := RX6) (C := RX1) (idx := idx) (rest := rest) (ci := 1) (b0 := cX6_cycle) (m0 := 1) (r0 := some .int) (fun Q2 hQ2 => ck_cycle_Even s0 D cB cI cJ cD v  b r h hb hQ2) oX1_cycle (Or.inl hk) rfl hlink (zT_mem 584 (by decide +kernel) rfl) (zT_mem 582 (by decide +kernel) rfl) (zT_mem 585 (by decide +kernel) rfl) (zT_mem 586 (by decide +kernel) rfl) (zT_mem 594 (by decide +kernel) rfl) ⟨by decide +kernel, by decide +kernel, by decide +kernel⟩ rfl hst hrest ⟨by omega, by omega⟩ hd k
  · obtain ⟨_, hk, _⟩ := id hb
    exact zV_roU (x := yX6_cycle) (owner := RX6) (C := RX5) (idx := idx) (rest := rest) (ci := 5) (b0 := cX6_cycle) (m0 := 1) (r0 := some .int) (fun Q2 hQ2 => ck_cycle_Ladder s0 D cB cI cJ cD v  b r h hb hQ2) oX5_cycle (Or.inl hk) rfl hlink (zT_mem 584 (by decide +kernel) rfl) (zT_mem 582 (by decide +kernel) rfl) (zT_mem 588 (by decide +kernel) rfl) (zT_mem 589 (by decide +kernel) rfl) (zT_mem 594 (by decide +kernel) rfl) ⟨by decide +kernel, by decide +kernel, by decide +kernel⟩ rfl hst hrest ⟨by omega, by omega⟩ hd k
  · obtain ⟨_, hk, _⟩ := id hb
    exact zV_roU (x := yX6_cycle) (owner := RX6) (C := RX8) (idx := idx) (rest := rest) (ci := 8) (b0 := cX6_cycle) (m0 := 1) (r0 := some .int) (fun Q2 hQ2 => ck_cycle_Row s0 D cB cI cJ cD v  b r h hb hQ2) oX8_cycle (Or.inl hk) rfl hlink (zT_mem 584 (by decide +kernel) rfl) (zT_mem 582 (by decide +kernel) rfl) (zT_mem 591 (by decide +kernel) rfl) (zT_mem 592 (by decide +kernel) rfl) (zT_mem 594 (by decide +kernel) rfl) ⟨by decide +kernel, by decide +kernel, by decide +kernel⟩ rfl hst hrest ⟨by omega, by omega⟩ hd k

def k_isLeap_None (x1 : Int32) : Option (Bool) := some false
theorem oX6_isLeap : zO yX6_isLeap cX6_isLeap 2 (some .boolean) 1 := ⟨zT_mem 1026 (by decide +kernel) rfl, zT_mem 98 (by decide +kernel) rfl, by decide +kernel, by decide +kernel, by decide +kernel⟩
set_option maxHeartbeats 4000000 in
set_option maxRecDepth 100000 in
theorem ck_isLeap_None (s0 : State) (D : va_G) (cB cI cJ cD : ClassId) (x1 : Int32) (a0 : Nat) (x : Bool) (h : k_isLeap_None x1 = some x) {hi hm : zHp} {nx : Nat} {Q : Option Value → zHp → zHp → Nat → Prop} (ho0 : iNone hi a0) (hQ0 : Q (some (.int (zb x))) hi hm nx) : zM s0 D (zty cB cI cJ cD) yX6_isLeap cX6_isLeap 2 (some .boolean) 0 0 0 0 [.ref a0, .int x1] hi hm nx Q := by
  have hQ : ∀ r : Bool, x = r → Q (some (.int (zb r))) hi hm nx := fun r hr => by subst hr; exact hQ0
  clear hQ0
  refine zM_of (by decide +kernel) (Nat.le_of_ble_eq_true rfl) ?_
  unfold k_isLeap_None at h
  refine zV_eq (lo2 := [(0, .ref a0), (1, .int x1)]) rfl rfl rfl rfl ?_
  refine zV_blk (pc' := 1) (lo' := [(0, .ref a0), (1, .int x1)]) (st' := [.int 0]) [.iconst 0] (by decide +kernel) rfl ?_
  obtain rfl := Option.some.inj h
  refine zV_eq (st2 := [.int (zb false)]) rfl rfl rfl rfl ?_
  exact zV_bret rfl (by decide +kernel) (hQ _ rfl)

def k_isLeap_Even (x0 : vEven) (x1 : Int32) : Option (Bool) := (j_fmodI ((x0.1 * x1) + x0.2.2) x0.2.1).bind (fun v1 => (if (x0.1 : Int32) ≤ (v1 : Int32) then some false else some true))
theorem oX1_isLeap : zO yX1_isLeap cX1_isLeap 2 (some .boolean) 1 := ⟨zT_mem 1020 (by decide +kernel) rfl, zT_mem 102 (by decide +kernel) rfl, by decide +kernel, by decide +kernel, by decide +kernel⟩
set_option maxHeartbeats 4000000 in
set_option maxRecDepth 100000 in
theorem ck_isLeap_Even (s0 : State) (D : va_G) (cB cI cJ cD : ClassId) (x0 : vEven) (x1 : Int32) (a0 : Nat) (x : Bool) (h : k_isLeap_Even x0 x1 = some x) {hi hm : zHp} {nx : Nat} {Q : Option Value → zHp → zHp → Nat → Prop} (ho0 : iEven hi a0 x0) (hQ0 : Q (some (.int (zb x))) hi hm nx) : zM s0 D (zty cB cI cJ cD) yX1_isLeap cX1_isLeap 2 (some .boolean) 1 22 0 0 [.ref a0, .int x1] hi hm nx Q := by
  have hQ : ∀ r : Bool, x = r → Q (some (.int (zb r))) hi hm nx := fun r hr => by subst hr; exact hQ0
  clear hQ0
  refine zM_of (by decide +kernel) (Nat.le_of_ble_eq_true rfl) ?_
  unfold k_isLeap_Even at h
  refine zV_eq (lo2 := [(0, .ref a0), (1, .int x1)]) rfl rfl rfl rfl ?_
  refine zV_blk (pc' := 1) (lo' := [(0, .ref a0), (1, .int x1)]) (st' := [.ref a0]) [.aload_n 0] (by decide +kernel) rfl ?_
  refine zV_get (ci := 1) (idx := 7) (k := 0) (N := 3) (fs := [.int x0.1, .int x0.2.1, .int x0.2.2]) (v := .int x0.1) (Or.inl ho0) rfl z_in1 (by decide) (zT_mem 438 (by decide +kernel) rfl) rfl (by decide +kernel) ?_
  refine zV_blk (pc' := 7) (lo' := [(0, .ref a0), (1, .int x1)]) (st' := [.ref a0, .int (x0.1 * x1)]) [.iload_n 1, .imul, .aload_n 0] (by decide +kernel) rfl ?_
  refine zV_get (ci := 1) (idx := 22) (k := 2) (N := 3) (fs := [.int x0.1, .int x0.2.1, .int x0.2.2]) (v := .int x0.2.2) (Or.inl ho0) rfl z_in1 (by decide) (zT_mem 442 (by decide +kernel) rfl) rfl (by decide +kernel) ?_
  refine zV_blk (pc' := 12) (lo' := [(0, .ref a0), (1, .int x1)]) (st' := [.ref a0, .int ((x0.1 * x1) + x0.2.2)]) [.iadd, .aload_n 0] (by decide +kernel) rfl ?_
  refine zV_get (ci := 1) (idx := 19) (k := 1) (N := 3) (fs := [.int x0.1, .int x0.2.1, .int x0.2.2]) (v := .int x0.2.1) (Or.inl ho0) rfl z_in1 (by decide) (zT_mem 440 (by decide +kernel) rfl) rfl (by decide +kernel) ?_
  obtain ⟨v1, hv1, h⟩ := zbind h
  refine zV_roS (idx := 25) (rest := []) (fun Q2 hQ2 => cj_fmodI s0 D cB cI cJ cD ((x0.1 * x1) + x0.2.2) x0.2.1  v1 hv1  hQ2) oJ9_floorMod_7cf53 (zT_mem 1021 (by decide +kernel) rfl) (zT_mem 649 (by decide +kernel) rfl) rfl rfl (Nat.le_of_ble_eq_true rfl) ⟨by decide, by decide⟩ (by decide +kernel) ?_
  refine zV_eq (st2 := [.int v1]) rfl rfl rfl rfl ?_
  refine zV_blk (pc' := 19) (lo' := [(0, .ref a0), (1, .int x1)]) (st' := [.ref a0, .int v1]) [.aload_n 0] (by decide +kernel) rfl ?_
  refine zV_get (ci := 1) (idx := 7) (k := 0) (N := 3) (fs := [.int x0.1, .int x0.2.1, .int x0.2.2]) (v := .int x0.1) (Or.inl ho0) rfl z_in1 (by decide) (zT_mem 438 (by decide +kernel) rfl) rfl (by decide +kernel) ?_
  refine zV_icmp_ge (tgt := 29) (off := 7) (by decide +kernel) (by decide) (fun q => ?_) (fun q => ?_)
  · replace h := zif_pos q h
    clear q
    refine zV_blk (pc' := 30) (lo' := [(0, .ref a0), (1, .int x1)]) (st' := [.int 0]) [.iconst 0] (by decide +kernel) rfl ?_
    obtain rfl := Option.some.inj h
    refine zV_eq (st2 := [.int (zb false)]) rfl rfl rfl rfl ?_
    exact zV_bret rfl (by decide +kernel) (hQ _ rfl)
  · replace h := zif_neg q h
    clear q
    refine zV_blk (pc' := 26) (lo' := [(0, .ref a0), (1, .int x1)]) (st' := [.int 1]) [.iconst 1] (by decide +kernel) rfl ?_
    refine zV_goto (tgt := 30) (off := 4) (by decide +kernel) (by decide) ?_
    obtain rfl := Option.some.inj h
    refine zV_eq (st2 := [.int (zb true)]) rfl rfl rfl rfl ?_
    exact zV_bret rfl (by decide +kernel) (hQ _ rfl)

def k_isLeap_Ladder_37 (n : Nat) (x2 : Int32) : Option (Bool) := (if ((x2 - x2 / 2 * 2) : Int32) = (1 : Int32) then some true else some false)
set_option maxHeartbeats 4000000 in
set_option maxRecDepth 100000 in
theorem ck_isLeap_Ladder_37 (s0 : State) (D : va_G) (cB cI cJ cD : ClassId) (n : Nat) (x2 : Int32) {x : Bool} {hi hm : zHp} {nx : Nat} {Q : Option Value → zHp → zHp → Nat → Prop} (h : k_isLeap_Ladder_37 n x2 = some x) (hQ : ∀ r : Bool, x = r → Q (some (.int (zb r))) hi hm nx) : zV s0 D (zty cB cI cJ cD) yX5_isLeap cX5_isLeap 3 (some .boolean) 0 0 0 0 37 [(2, .int x2)] [] hi hm nx Q := by
  unfold k_isLeap_Ladder_37 at h
  refine zV_blk (pc' := 39) (lo' := [(2, .int x2)]) (st' := [.int 2, .int x2]) [.iload_n 2, .iconst 2] (by decide +kernel) rfl ?_
  refine zV_irem (by decide +kernel) (by decide +kernel) ?_
  refine zV_blk (pc' := 41) (lo' := [(2, .int x2)]) (st' := [.int 1, .int (x2 - x2 / 2 * 2)]) [.iconst 1] (by decide +kernel) rfl ?_
  refine zV_icmp_ne (tgt := 48) (off := 7) (by decide +kernel) (by decide) (fun q => ?_) (fun q => ?_)
  · replace h := zif_neg q h
    clear q
    refine zV_blk (pc' := 49) (lo' := [(2, .int x2)]) (st' := [.int 0]) [.iconst 0] (by decide +kernel) rfl ?_
    obtain rfl := Option.some.inj h
    refine zV_eq (st2 := [.int (zb false)]) rfl rfl rfl rfl ?_
    exact zV_bret rfl (by decide +kernel) (hQ _ rfl)
  · replace h := zif_pos q h
    clear q
    refine zV_blk (pc' := 45) (lo' := [(2, .int x2)]) (st' := [.int 1]) [.iconst 1] (by decide +kernel) rfl ?_
    refine zV_goto (tgt := 49) (off := 4) (by decide +kernel) (by decide) ?_
    obtain rfl := Option.some.inj h
    refine zV_eq (st2 := [.int (zb true)]) rfl rfl rfl rfl ?_
    exact zV_bret rfl (by decide +kernel) (hQ _ rfl)
def k_isLeap_Ladder_2 (n : Nat) (x0 : vArr) (x1 : Int32) (s : Int32) : Option ((Int32) ⊕ (Bool)) := (if ((nI x0.1) : Int32) ≤ (s : Int32) then ((k_isLeap_Ladder_37 n s ).map (fun z => .inr z)) else zck (zin (s) x0.1) ((if ((x0.2 (s : Int32).toNatClampNeg) : Int32) ≤ (0 : Int32) then ((k_isLeap_Ladder_37 n s ).map (fun z => .inr z)) else zck (zin (s) x0.1) (zck (decide (¬ ((x0.2 (s : Int32).toNatClampNeg) : Int32) = 0)) ((if ((x1 - x1 / (x0.2 (s : Int32).toNatClampNeg) * (x0.2 (s : Int32).toNatClampNeg)) : Int32) = (0 : Int32) then some (.inl (s + 1)) else ((k_isLeap_Ladder_37 n s ).map (fun z => .inr z))))))))
set_option maxHeartbeats 4000000 in
set_option maxRecDepth 100000 in
theorem ck_isLeap_Ladder_2 (s0 : State) (D : va_G) (cB cI cJ cD : ClassId) (n : Nat) (x0 : vArr) (x1 : Int32) (a0 : Nat) (s : Int32) {x : (Int32) ⊕ (Bool)} {hi hm : zHp} {nx : Nat} {Q : Option Value → zHp → zHp → Nat → Prop} (ho0 : iLadder cI hi a0 x0) (h : k_isLeap_Ladder_2 n x0 x1 s = some x) (hL2 : ∀ s : Int32, x = (.inl s) → zV s0 D (zty cB cI cJ cD) yX5_isLeap cX5_isLeap 3 (some .boolean) 0 0 0 0 2 [(0, .ref a0), (1, .int x1), (2, .int s)] [] hi hm nx Q) (hQ : ∀ r : Bool, x = (.inr r) → Q (some (.int (zb r))) hi hm nx) : zV s0 D (zty cB cI cJ cD) yX5_isLeap cX5_isLeap 3 (some .boolean) 0 0 0 0 2 [(0, .ref a0), (1, .int x1), (2, .int s)] [] hi hm nx Q := by
  unfold k_isLeap_Ladder_2 at h
  refine zV_blk (pc' := 4) (lo' := [(0, .ref a0), (1, .int x1), (2, .int s)]) (st' := [.ref a0, .int s]) [.iload_n 2, .aload_n 0] (by decide +kernel) rfl ?_
  obtain ⟨b1, hc2, hb3⟩ := ho0
  refine zV_get (ci := 5) (idx := 7) (k := 0) (N := 1) (fs := [.ref b1]) (v := .ref b1) (Or.inl hc2) rfl z_in5 (by decide) (zT_mem 471 (by decide +kernel) rfl) rfl (by decide +kernel) ?_
  refine zV_alen 1 (Or.inl hb3) rfl (by decide +kernel) ?_
  refine zV_icmp_ge (tgt := 37) (off := 29) (by decide +kernel) (by decide) (fun q => ?_) (fun q => ?_)
  · replace h := zif_pos q h
    clear q
    obtain ⟨z4, h9, hx⟩ := zmap h
    clear h; subst hx; have h := h9; clear h9
    refine zV_pick (lo2 := [(2, .int s)]) [2] rfl ?_
    exact ck_isLeap_Ladder_37 s0 D cB cI cJ cD n s    h (fun r hr => hQ r (by rw [hr]))
  · replace h := zif_neg q h
    clear q
    refine zV_blk (pc' := 12) (lo' := [(0, .ref a0), (1, .int x1), (2, .int s)]) (st' := [.ref a0]) [.aload_n 0] (by decide +kernel) rfl ?_
    refine zV_get (ci := 5) (idx := 7) (k := 0) (N := 1) (fs := [.ref b1]) (v := .ref b1) (Or.inl hc2) rfl z_in5 (by decide) (zT_mem 471 (by decide +kernel) rfl) rfl (by decide +kernel) ?_
    refine zV_blk (pc' := 16) (lo' := [(0, .ref a0), (1, .int x1), (2, .int s)]) (st' := [.int s, .ref b1]) [.iload_n 2] (by decide +kernel) rfl ?_
    obtain ⟨hz, h⟩ := zck_some h
    refine zV_iald 1 (Or.inl hb3) rfl (zin_in hz) (by decide +kernel) ?_
    refine zV_if_le (tgt := 37) (off := 20) (by decide +kernel) (by decide) (fun q => ?_) (fun q => ?_)
    · replace h := zif_pos q h
      clear q
      obtain ⟨z5, h9, hx⟩ := zmap h
      clear h; subst hx; have h := h9; clear h9
      refine zV_pick (lo2 := [(2, .int s)]) [2] rfl ?_
      exact ck_isLeap_Ladder_37 s0 D cB cI cJ cD n s    h (fun r hr => hQ r (by rw [hr]))
    · replace h := zif_neg q h
      clear q
      refine zV_blk (pc' := 22) (lo' := [(0, .ref a0), (1, .int x1), (2, .int s)]) (st' := [.ref a0, .int x1]) [.iload_n 1, .aload_n 0] (by decide +kernel) rfl ?_
      refine zV_get (ci := 5) (idx := 7) (k := 0) (N := 1) (fs := [.ref b1]) (v := .ref b1) (Or.inl hc2) rfl z_in5 (by decide) (zT_mem 471 (by decide +kernel) rfl) rfl (by decide +kernel) ?_
      refine zV_blk (pc' := 26) (lo' := [(0, .ref a0), (1, .int x1), (2, .int s)]) (st' := [.int s, .ref b1, .int x1]) [.iload_n 2] (by decide +kernel) rfl ?_
      obtain ⟨hz, h⟩ := zck_some h
      refine zV_iald 1 (Or.inl hb3) rfl (zin_in hz) (by decide +kernel) ?_
      obtain ⟨hz, h⟩ := zck_some h
      refine zV_irem (by decide +kernel) (of_decide_eq_true hz) ?_
      refine zV_if_ne (tgt := 37) (off := 9) (by decide +kernel) (by decide) (fun q => ?_) (fun q => ?_)
      · replace h := zif_neg q h
        clear q
        obtain ⟨z6, h9, hx⟩ := zmap h
        clear h; subst hx; have h := h9; clear h9
        refine zV_pick (lo2 := [(2, .int s)]) [2] rfl ?_
        exact ck_isLeap_Ladder_37 s0 D cB cI cJ cD n s    h (fun r hr => hQ r (by rw [hr]))
      · replace h := zif_pos q h
        clear q
        refine zV_blk (pc' := 34) (lo' := [(2, .int (s + 1)), (0, .ref a0), (1, .int x1)]) (st' := []) [.iinc 2 1] (by decide +kernel) rfl ?_
        refine zV_goto (tgt := 2) (off := -32) (by decide +kernel) (by decide) ?_
        obtain rfl := Option.some.inj h
        refine zV_pick (lo2 := [(0, .ref a0), (1, .int x1), (2, .int (s + 1))]) [1, 2, 0] rfl ?_
        exact hL2 _ rfl
theorem ck_isLeap_Ladder_2L (s0 : State) (D : va_G) (cB cI cJ cD : ClassId) (n : Nat) (x0 : vArr) (x1 : Int32) (a0 : Nat) : ∀ (k : Nat) (s : Int32) {hi hm : zHp} {nx : Nat} {Q : Option Value → zHp → zHp → Nat → Prop} (ho0 : iLadder cI hi a0 x0) {x : Bool} (_ : zloop (k_isLeap_Ladder_2 n x0 x1) k s = some x) (hQ : ∀ r : Bool, x = r → Q (some (.int (zb r))) hi hm nx), zV s0 D (zty cB cI cJ cD) yX5_isLeap cX5_isLeap 3 (some .boolean) 0 0 0 0 2 [(0, .ref a0), (1, .int x1), (2, .int s)] [] hi hm nx Q
  | 0, s, _, _, _, _, _, _, h, _ => by cases h
  | k + 1, s, hi, hm, nx, Q, ho0, x, h, hQ => by
    obtain ⟨z, hz, h1, h2⟩ := zloop_succ h
    exact ck_isLeap_Ladder_2 s0 D cB cI cJ cD n x0 x1 a0 s ho0 hz (fun s' hs => ck_isLeap_Ladder_2L s0 D cB cI cJ cD n x0 x1 a0 k s' ho0 (h1 s' hs) hQ) (fun r hr => hQ r (h2 _ hr).symm)
def k_isLeap_Ladder (n : Nat) (x0 : vArr) (x1 : Int32) : Option (Bool) := (zloop (k_isLeap_Ladder_2 n x0 x1) n 0)
theorem oX5_isLeap : zO yX5_isLeap cX5_isLeap 3 (some .boolean) 1 := ⟨zT_mem 1024 (by decide +kernel) rfl, zT_mem 103 (by decide +kernel) rfl, by decide +kernel, by decide +kernel, by decide +kernel⟩
set_option maxHeartbeats 4000000 in
set_option maxRecDepth 100000 in
theorem ck_isLeap_Ladder (s0 : State) (D : va_G) (cB cI cJ cD : ClassId) (n : Nat) (x0 : vArr) (x1 : Int32) (a0 : Nat) (x : Bool) (h : k_isLeap_Ladder n x0 x1 = some x) {hi hm : zHp} {nx : Nat} {Q : Option Value → zHp → zHp → Nat → Prop} (ho0 : iLadder cI hi a0 x0) (hQ0 : Q (some (.int (zb x))) hi hm nx) : zM s0 D (zty cB cI cJ cD) yX5_isLeap cX5_isLeap 3 (some .boolean) 0 0 0 0 [.ref a0, .int x1] hi hm nx Q := by
  have hQ : ∀ r : Bool, x = r → Q (some (.int (zb r))) hi hm nx := fun r hr => by subst hr; exact hQ0
  clear hQ0
  refine zM_of (by decide +kernel) (Nat.le_of_ble_eq_true rfl) ?_
  unfold k_isLeap_Ladder at h
  refine zV_eq (lo2 := [(0, .ref a0), (1, .int x1)]) rfl rfl rfl rfl ?_
  refine zV_blk (pc' := 2) (lo' := [(2, .int 0), (0, .ref a0), (1, .int x1)]) (st' := []) [.iconst 0, .istore_n 2] (by decide +kernel) rfl ?_
  refine zV_pick (lo2 := [(0, .ref a0), (1, .int x1), (2, .int 0)]) [1, 2, 0] rfl ?_
  exact ck_isLeap_Ladder_2L s0 D cB cI cJ cD n x0 x1 a0 n 0 ho0 h hQ

def k_isLeap_Row (x0 : vRow) (x1 : Int32) : Option (Bool) := (if (1 : Int32) ≤ (x0.2 : Int32) then (j_fmodI x1 x0.2).bind (fun v4 => zck (zin ((v4 + 1)) x0.1.1) (zck (zin (v4) x0.1.1) ((if ((x0.1.2 ((v4 + 1) : Int32).toNatClampNeg) : Int32) ≤ ((x0.1.2 (v4 : Int32).toNatClampNeg) : Int32) then some false else some true)))) else some false)
theorem oX8_isLeap : zO yX8_isLeap cX8_isLeap 3 (some .boolean) 1 := ⟨zT_mem 962 (by decide +kernel) rfl, zT_mem 104 (by decide +kernel) rfl, by decide +kernel, by decide +kernel, by decide +kernel⟩
set_option maxHeartbeats 4000000 in
set_option maxRecDepth 100000 in
theorem ck_isLeap_Row (s0 : State) (D : va_G) (cB cI cJ cD : ClassId) (x0 : vRow) (x1 : Int32) (a0 : Nat) (x : Bool) (h : k_isLeap_Row x0 x1 = some x) {hi hm : zHp} {nx : Nat} {Q : Option Value → zHp → zHp → Nat → Prop} (ho0 : iRow cI hi a0 x0) (hQ0 : Q (some (.int (zb x))) hi hm nx) : zM s0 D (zty cB cI cJ cD) yX8_isLeap cX8_isLeap 3 (some .boolean) 1 22 0 0 [.ref a0, .int x1] hi hm nx Q := by
  have hQ : ∀ r : Bool, x = r → Q (some (.int (zb r))) hi hm nx := fun r hr => by subst hr; exact hQ0
  clear hQ0
  refine zM_of (by decide +kernel) (Nat.le_of_ble_eq_true rfl) ?_
  unfold k_isLeap_Row at h
  refine zV_eq (lo2 := [(0, .ref a0), (1, .int x1)]) rfl rfl rfl rfl ?_
  refine zV_blk (pc' := 1) (lo' := [(0, .ref a0), (1, .int x1)]) (st' := [.ref a0]) [.aload_n 0] (by decide +kernel) rfl ?_
  obtain ⟨b1, hc2, hb3⟩ := ho0
  refine zV_get (ci := 8) (idx := 13) (k := 1) (N := 2) (fs := [.ref b1, .int x0.2]) (v := .int x0.2) (Or.inl hc2) rfl z_in8 (by decide) (zT_mem 487 (by decide +kernel) rfl) rfl (by decide +kernel) ?_
  refine zV_blk (pc' := 5) (lo' := [(0, .ref a0), (1, .int x1)]) (st' := [.int 1, .int x0.2]) [.iconst 1] (by decide +kernel) rfl ?_
  refine zV_icmp_ge (tgt := 10) (off := 5) (by decide +kernel) (by decide) (fun q => ?_) (fun q => ?_)
  · replace h := zif_pos q h
    clear q
    refine zV_blk (pc' := 12) (lo' := [(0, .ref a0), (1, .int x1)]) (st' := [.ref a0, .int x1]) [.iload_n 1, .aload_n 0] (by decide +kernel) rfl ?_
    refine zV_get (ci := 8) (idx := 13) (k := 1) (N := 2) (fs := [.ref b1, .int x0.2]) (v := .int x0.2) (Or.inl hc2) rfl z_in8 (by decide) (zT_mem 487 (by decide +kernel) rfl) rfl (by decide +kernel) ?_
    obtain ⟨v4, hv4, h⟩ := zbind h
    refine zV_roS (idx := 17) (rest := []) (fun Q2 hQ2 => cj_fmodI s0 D cB cI cJ cD x1 x0.2  v4 hv4  hQ2) oJ9_floorMod_7cf53 (zT_mem 648 (by decide +kernel) rfl) (zT_mem 649 (by decide +kernel) rfl) rfl rfl (Nat.le_of_ble_eq_true rfl) ⟨by decide, by decide⟩ (by decide +kernel) ?_
    refine zV_eq (st2 := [.int v4]) rfl rfl rfl rfl ?_
    refine zV_blk (pc' := 20) (lo' := [(2, .int v4), (0, .ref a0), (1, .int x1)]) (st' := [.ref a0]) [.istore_n 2, .aload_n 0] (by decide +kernel) rfl ?_
    refine zV_get (ci := 8) (idx := 7) (k := 0) (N := 2) (fs := [.ref b1, .int x0.2]) (v := .ref b1) (Or.inl hc2) rfl z_in8 (by decide) (zT_mem 486 (by decide +kernel) rfl) rfl (by decide +kernel) ?_
    refine zV_blk (pc' := 26) (lo' := [(2, .int v4), (0, .ref a0), (1, .int x1)]) (st' := [.int (v4 + 1), .ref b1]) [.iload_n 2, .iconst 1, .iadd] (by decide +kernel) rfl ?_
    obtain ⟨hz, h⟩ := zck_some h
    refine zV_iald 1 (Or.inl hb3) rfl (zin_in hz) (by decide +kernel) ?_
    refine zV_blk (pc' := 28) (lo' := [(2, .int v4), (0, .ref a0), (1, .int x1)]) (st' := [.ref a0, .int (x0.1.2 ((v4 + 1) : Int32).toNatClampNeg)]) [.aload_n 0] (by decide +kernel) rfl ?_
    refine zV_get (ci := 8) (idx := 7) (k := 0) (N := 2) (fs := [.ref b1, .int x0.2]) (v := .ref b1) (Or.inl hc2) rfl z_in8 (by decide) (zT_mem 486 (by decide +kernel) rfl) rfl (by decide +kernel) ?_
    refine zV_blk (pc' := 32) (lo' := [(2, .int v4), (0, .ref a0), (1, .int x1)]) (st' := [.int v4, .ref b1, .int (x0.1.2 ((v4 + 1) : Int32).toNatClampNeg)]) [.iload_n 2] (by decide +kernel) rfl ?_
    obtain ⟨hz, h⟩ := zck_some h
    refine zV_iald 1 (Or.inl hb3) rfl (zin_in hz) (by decide +kernel) ?_
    refine zV_icmp_le (tgt := 40) (off := 7) (by decide +kernel) (by decide) (fun q => ?_) (fun q => ?_)
    · replace h := zif_pos q h
      clear q
      refine zV_blk (pc' := 41) (lo' := [(2, .int v4), (0, .ref a0), (1, .int x1)]) (st' := [.int 0]) [.iconst 0] (by decide +kernel) rfl ?_
      obtain rfl := Option.some.inj h
      refine zV_eq (st2 := [.int (zb false)]) rfl rfl rfl rfl ?_
      exact zV_bret rfl (by decide +kernel) (hQ _ rfl)
    · replace h := zif_neg q h
      clear q
      refine zV_blk (pc' := 37) (lo' := [(2, .int v4), (0, .ref a0), (1, .int x1)]) (st' := [.int 1]) [.iconst 1] (by decide +kernel) rfl ?_
      refine zV_goto (tgt := 41) (off := 4) (by decide +kernel) (by decide) ?_
      obtain rfl := Option.some.inj h
      refine zV_eq (st2 := [.int (zb true)]) rfl rfl rfl rfl ?_
      exact zV_bret rfl (by decide +kernel) (hQ _ rfl)
  · replace h := zif_neg q h
    clear q
    refine zV_blk (pc' := 9) (lo' := [(0, .ref a0), (1, .int x1)]) (st' := [.int 0]) [.iconst 0] (by decide +kernel) rfl ?_
    obtain rfl := Option.some.inj h
    refine zV_eq (st2 := [.int (zb false)]) rfl rfl rfl rfl ?_
    exact zV_bret rfl (by decide +kernel) (hQ _ rfl)

def d_isLeap (n : Nat) (v : vLaw) (z0 : Int32) : Option Bool := match v with
  | .inl _ => k_isLeap_None z0
  | .inr (.inl v) => k_isLeap_Even v z0
  | .inr (.inr (.inl v)) => k_isLeap_Ladder n v z0
  | .inr (.inr (.inr v)) => k_isLeap_Row v z0
set_option maxHeartbeats 4000000 in
set_option maxRecDepth 100000 in
theorem dc_isLeap (s0 : State) (D : va_G) (cB cI cJ cD : ClassId) (n : Nat) (v : vLaw) (z0 : Int32) (b : Nat) (r : Bool) (h : d_isLeap n v z0 = some r) {y : MethodName} {cc : ByteArray} {nL : Nat} {ret : Option FieldType} {rF rL mc ms pc idx : Nat} {lo : List (Nat × Value)} {st rest : List Value} {hi hm : zHp} {nx : Nat} {Q : Option Value → zHp → zHp → Nat → Prop} (hb : iLaw cI hi b v) (hlink : Cond.methodLink y.cls idx yX6_isLeap ∈ zT) (hst : st = ([.int z0] : List Value).reverse ++ .ref b :: rest) (hrest : (rest.map fun v => v.category).sum ≤ 8) (hR : 1 + 1 ≤ rF ∧ 19 + 25 ≤ rL) (hd : decode cc pc = .ok (.invokevirtual idx, 3)) (k : zV s0 D (zty cB cI cJ cD) y cc nL ret rF rL mc ms (pc + 3) lo (.int (zb r) :: rest) hi hm nx Q) : zV s0 D (zty cB cI cJ cD) y cc nL ret rF rL mc ms pc lo st hi hm nx Q := by
  rcases v with ⟨⟩ | v | v | v
  · have hk := hb
    exact zV_roV (idx := idx) (rest := rest) (ci := 6) (fun Q2 hQ2 => ck_isLeap_None s0 D cB cI cJ cD z0 b r h hb hQ2) oX6_isLeap (Or.inl hk) rfl hlink (zT_mem 1015 (by decide +kernel) rfl) (zT_mem 1016 (by decide +kernel) rfl) rfl hst hrest ⟨by omega, by omega⟩ hd k
  · have hk := hb
    exact zV_roU (x := yX6_isLeap) (owner := RX6) (C := RX1) (idx := idx) (rest := rest) (ci := 1) (b0 := cX6_isLeap) (m0 := 2) (r0 := some .boolean) (fun Q2 hQ2 => ck_isLeap_Even s0 D cB cI cJ cD v z0 b r h hb hQ2) oX1_isLeap (Or.inl hk) rfl hlink (zT_mem 1017 (by decide +kernel) rfl) (zT_mem 1015 (by decide +kernel) rfl) (zT_mem 1018 (by decide +kernel) rfl) (zT_mem 1019 (by decide +kernel) rfl) (zT_mem 1026 (by decide +kernel) rfl) ⟨by decide +kernel, by decide +kernel, by decide +kernel⟩ rfl hst hrest ⟨by omega, by omega⟩ hd k
  · obtain ⟨_, hk, _⟩ := id hb
    exact zV_roU (x := yX6_isLeap) (owner := RX6) (C := RX5) (idx := idx) (rest := rest) (ci := 5) (b0 := cX6_isLeap) (m0 := 2) (r0 := some .boolean) (fun Q2 hQ2 => ck_isLeap_Ladder s0 D cB cI cJ cD n v z0 b r h hb hQ2) oX5_isLeap (Or.inl hk) rfl hlink (zT_mem 1017 (by decide +kernel) rfl) (zT_mem 1015 (by decide +kernel) rfl) (zT_mem 1022 (by decide +kernel) rfl) (zT_mem 1023 (by decide +kernel) rfl) (zT_mem 1026 (by decide +kernel) rfl) ⟨by decide +kernel, by decide +kernel, by decide +kernel⟩ rfl hst hrest ⟨by omega, by omega⟩ hd k
  · obtain ⟨_, hk, _⟩ := id hb
    exact zV_roU (x := yX6_isLeap) (owner := RX6) (C := RX8) (idx := idx) (rest := rest) (ci := 8) (b0 := cX6_isLeap) (m0 := 2) (r0 := some .boolean) (fun Q2 hQ2 => ck_isLeap_Row s0 D cB cI cJ cD v z0 b r h hb hQ2) oX8_isLeap (Or.inl hk) rfl hlink (zT_mem 1017 (by decide +kernel) rfl) (zT_mem 1015 (by decide +kernel) rfl) (zT_mem 1025 (by decide +kernel) rfl) (zT_mem 960 (by decide +kernel) rfl) (zT_mem 1026 (by decide +kernel) rfl) ⟨by decide +kernel, by decide +kernel, by decide +kernel⟩ rfl hst hrest ⟨by omega, by omega⟩ hd k

def k_leapsBefore_None (x1 : Int32) : Option (Int32) := some 0
theorem oX6_leapsBefore : zO yX6_leapsBefore cX6_leapsBefore 2 (some .int) 1 := ⟨zT_mem 651 (by decide +kernel) rfl, zT_mem 98 (by decide +kernel) rfl, by decide +kernel, by decide +kernel, by decide +kernel⟩
set_option maxHeartbeats 4000000 in
set_option maxRecDepth 100000 in
theorem ck_leapsBefore_None (s0 : State) (D : va_G) (cB cI cJ cD : ClassId) (x1 : Int32) (a0 : Nat) (x : Int32) (h : k_leapsBefore_None x1 = some x) {hi hm : zHp} {nx : Nat} {Q : Option Value → zHp → zHp → Nat → Prop} (ho0 : iNone hi a0) (hQ0 : Q (some (.int x)) hi hm nx) : zM s0 D (zty cB cI cJ cD) yX6_leapsBefore cX6_leapsBefore 2 (some .int) 0 0 0 0 [.ref a0, .int x1] hi hm nx Q := by
  have hQ : ∀ r : Int32, x = r → Q (some (.int r)) hi hm nx := fun r hr => by subst hr; exact hQ0
  clear hQ0
  refine zM_of (by decide +kernel) (Nat.le_of_ble_eq_true rfl) ?_
  unfold k_leapsBefore_None at h
  refine zV_eq (lo2 := [(0, .ref a0), (1, .int x1)]) rfl rfl rfl rfl ?_
  refine zV_blk (pc' := 1) (lo' := [(0, .ref a0), (1, .int x1)]) (st' := [.int 0]) [.iconst 0] (by decide +kernel) rfl ?_
  obtain rfl := Option.some.inj h
  exact zV_iret rfl (by decide +kernel) (hQ _ rfl)

def k_leapsBefore_Even (x0 : vEven) (x1 : Int32) : Option (Int32) := (j_fdivI ((x0.1 * (x1 - 1)) + x0.2.2) x0.2.1).bind (fun v1 => (j_fdivI (x0.2.2 - x0.1) x0.2.1).bind (fun v2 => some (v1 - v2)))
theorem oX1_leapsBefore : zO yX1_leapsBefore cX1_leapsBefore 2 (some .int) 1 := ⟨zT_mem 636 (by decide +kernel) rfl, zT_mem 102 (by decide +kernel) rfl, by decide +kernel, by decide +kernel, by decide +kernel⟩
set_option maxHeartbeats 4000000 in
set_option maxRecDepth 100000 in
theorem ck_leapsBefore_Even (s0 : State) (D : va_G) (cB cI cJ cD : ClassId) (x0 : vEven) (x1 : Int32) (a0 : Nat) (x : Int32) (h : k_leapsBefore_Even x0 x1 = some x) {hi hm : zHp} {nx : Nat} {Q : Option Value → zHp → zHp → Nat → Prop} (ho0 : iEven hi a0 x0) (hQ0 : Q (some (.int x)) hi hm nx) : zM s0 D (zty cB cI cJ cD) yX1_leapsBefore cX1_leapsBefore 2 (some .int) 1 22 0 0 [.ref a0, .int x1] hi hm nx Q := by
  have hQ : ∀ r : Int32, x = r → Q (some (.int r)) hi hm nx := fun r hr => by subst hr; exact hQ0
  clear hQ0
  refine zM_of (by decide +kernel) (Nat.le_of_ble_eq_true rfl) ?_
  unfold k_leapsBefore_Even at h
  refine zV_eq (lo2 := [(0, .ref a0), (1, .int x1)]) rfl rfl rfl rfl ?_
  refine zV_blk (pc' := 1) (lo' := [(0, .ref a0), (1, .int x1)]) (st' := [.ref a0]) [.aload_n 0] (by decide +kernel) rfl ?_
  refine zV_get (ci := 1) (idx := 7) (k := 0) (N := 3) (fs := [.int x0.1, .int x0.2.1, .int x0.2.2]) (v := .int x0.1) (Or.inl ho0) rfl z_in1 (by decide) (zT_mem 438 (by decide +kernel) rfl) rfl (by decide +kernel) ?_
  refine zV_blk (pc' := 9) (lo' := [(0, .ref a0), (1, .int x1)]) (st' := [.ref a0, .int (x0.1 * (x1 - 1))]) [.iload_n 1, .iconst 1, .isub, .imul, .aload_n 0] (by decide +kernel) rfl ?_
  refine zV_get (ci := 1) (idx := 22) (k := 2) (N := 3) (fs := [.int x0.1, .int x0.2.1, .int x0.2.2]) (v := .int x0.2.2) (Or.inl ho0) rfl z_in1 (by decide) (zT_mem 442 (by decide +kernel) rfl) rfl (by decide +kernel) ?_
  refine zV_blk (pc' := 14) (lo' := [(0, .ref a0), (1, .int x1)]) (st' := [.ref a0, .int ((x0.1 * (x1 - 1)) + x0.2.2)]) [.iadd, .aload_n 0] (by decide +kernel) rfl ?_
  refine zV_get (ci := 1) (idx := 19) (k := 1) (N := 3) (fs := [.int x0.1, .int x0.2.1, .int x0.2.2]) (v := .int x0.2.1) (Or.inl ho0) rfl z_in1 (by decide) (zT_mem 440 (by decide +kernel) rfl) rfl (by decide +kernel) ?_
  obtain ⟨v1, hv1, h⟩ := zbind h
  refine zV_roS (idx := 28) (rest := []) (fun Q2 hQ2 => cj_fdivI s0 D cB cI cJ cD ((x0.1 * (x1 - 1)) + x0.2.2) x0.2.1  v1 hv1  hQ2) oJ9_floorDiv_7cf53 (zT_mem 637 (by decide +kernel) rfl) (zT_mem 638 (by decide +kernel) rfl) rfl rfl (Nat.le_of_ble_eq_true rfl) ⟨by decide, by decide⟩ (by decide +kernel) ?_
  refine zV_eq (st2 := [.int v1]) rfl rfl rfl rfl ?_
  refine zV_blk (pc' := 21) (lo' := [(0, .ref a0), (1, .int x1)]) (st' := [.ref a0, .int v1]) [.aload_n 0] (by decide +kernel) rfl ?_
  refine zV_get (ci := 1) (idx := 22) (k := 2) (N := 3) (fs := [.int x0.1, .int x0.2.1, .int x0.2.2]) (v := .int x0.2.2) (Or.inl ho0) rfl z_in1 (by decide) (zT_mem 442 (by decide +kernel) rfl) rfl (by decide +kernel) ?_
  refine zV_blk (pc' := 25) (lo' := [(0, .ref a0), (1, .int x1)]) (st' := [.ref a0, .int x0.2.2, .int v1]) [.aload_n 0] (by decide +kernel) rfl ?_
  refine zV_get (ci := 1) (idx := 7) (k := 0) (N := 3) (fs := [.int x0.1, .int x0.2.1, .int x0.2.2]) (v := .int x0.1) (Or.inl ho0) rfl z_in1 (by decide) (zT_mem 438 (by decide +kernel) rfl) rfl (by decide +kernel) ?_
  refine zV_blk (pc' := 30) (lo' := [(0, .ref a0), (1, .int x1)]) (st' := [.ref a0, .int (x0.2.2 - x0.1), .int v1]) [.isub, .aload_n 0] (by decide +kernel) rfl ?_
  refine zV_get (ci := 1) (idx := 19) (k := 1) (N := 3) (fs := [.int x0.1, .int x0.2.1, .int x0.2.2]) (v := .int x0.2.1) (Or.inl ho0) rfl z_in1 (by decide) (zT_mem 440 (by decide +kernel) rfl) rfl (by decide +kernel) ?_
  obtain ⟨v2, hv2, h⟩ := zbind h
  refine zV_roS (idx := 28) (rest := [.int v1]) (fun Q2 hQ2 => cj_fdivI s0 D cB cI cJ cD (x0.2.2 - x0.1) x0.2.1  v2 hv2  hQ2) oJ9_floorDiv_7cf53 (zT_mem 637 (by decide +kernel) rfl) (zT_mem 638 (by decide +kernel) rfl) rfl rfl (Nat.le_of_ble_eq_true rfl) ⟨by decide, by decide⟩ (by decide +kernel) ?_
  refine zV_eq (st2 := [.int v2, .int v1]) rfl rfl rfl rfl ?_
  refine zV_blk (pc' := 37) (lo' := [(0, .ref a0), (1, .int x1)]) (st' := [.int (v1 - v2)]) [.isub] (by decide +kernel) rfl ?_
  obtain rfl := Option.some.inj h
  exact zV_iret rfl (by decide +kernel) (hQ _ rfl)

