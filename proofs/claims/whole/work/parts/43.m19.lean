def mfallsOf_58 (n : Nat) (w : Nat → Int32) (x1 : Int32) (x2 : Int32) (x3 : Int32) (x4 : Int32) (x5 : Int32) (x6 : Int32) (x8 : Int32) (t0 : Int32) (t1 : Int32) : Option ((Int32 × Int32) ⊕ (Int32)) := (mflag t1).bind (fun v1 => some (.inl ((t0 + v1), (x8 + 1))))
set_option maxHeartbeats 4000000 in
set_option maxRecDepth 100000 in
theorem cmfallsOf_58 (s0 : State) (D : va_G) (cB cI cJ cD : ClassId) (am a1 a2 a3 : Nat) (F : Nat → Int32) (G : Nat → Int64) (tp w oc : Nat → Int32) (n : Nat) (x1 : Int32) (x2 : Int32) (x3 : Int32) (x4 : Int32) (x5 : Int32) (x6 : Int32) (x8 : Int32) (t0 : Int32) (t1 : Int32) {hi hm : zHp} {nx : Nat} {Q : Option Value → zHp → zHp → Nat → Prop} {x : (Int32 × Int32) ⊕ (Int32)} (hW : mW cB cI am a1 a2 a3 F G tp w oc hm) (h : mfallsOf_58 n w x1 x2 x3 x4 x5 x6 x8 t0 t1 = some x) (hL6 : ∀ s : Int32 × Int32, x = (.inl s) → zV s0 D (zty cB cI cJ cD) yX12_fallsOf cX12_fallsOf 9 (some .int) 5 124 0 0 6 [(0, .ref am), (1, .int x1), (2, .int x2), (3, .int x3), (4, .int x4), (5, .int x5), (6, .int x6), (7, .int s.1), (8, .int s.2)] [] hi hm nx Q) (hQ : ∀ r : Int32, x = (.inr r) → Q (some (.int r)) hi hm nx) : zV s0 D (zty cB cI cJ cD) yX12_fallsOf cX12_fallsOf 9 (some .int) 5 124 0 0 58 [(0, .ref am), (1, .int x1), (2, .int x2), (3, .int x3), (4, .int x4), (5, .int x5), (6, .int x6), (8, .int x8)] [.int t1, .int t0] hi hm nx Q := by
  unfold mfallsOf_58 at h
  obtain ⟨v1, hv1, h⟩ := zbind h
  refine zV_sC (idx := 321) (rest := [.int t0]) (cmflag s0 D cB cI cJ cD t1 v1 hv1) oX12_flag (zT_mem 1822 (by decide +kernel) rfl) (zT_mem 1823 (by decide +kernel) rfl) rfl rfl (Nat.le_of_ble_eq_true rfl) ⟨by decide, by decide⟩ (by decide +kernel) ?_
  refine zV_eq (st2 := [.int v1, .int t0]) rfl rfl rfl rfl ?_
  refine zV_blk (pc' := 67) (lo' := [(8, .int (x8 + 1)), (7, .int (t0 + v1)), (0, .ref am), (1, .int x1), (2, .int x2), (3, .int x3), (4, .int x4), (5, .int x5), (6, .int x6)]) (st' := []) [.iadd, .istore 7, .iinc 8 1] (by decide +kernel) rfl ?_
  refine zV_goto (tgt := 6) (off := -61) (by decide +kernel) (by decide) ?_
  obtain rfl := Option.some.inj h
  refine zV_pick (lo2 := [(0, .ref am), (1, .int x1), (2, .int x2), (3, .int x3), (4, .int x4), (5, .int x5), (6, .int x6), (7, .int (t0 + v1)), (8, .int (x8 + 1))]) [2, 3, 4, 5, 6, 7, 8, 1, 0] rfl ?_
  exact hL6 _ rfl
def mfallsOf_57 (n : Nat) (w : Nat → Int32) (x1 : Int32) (x2 : Int32) (x3 : Int32) (x4 : Int32) (x5 : Int32) (x6 : Int32) (x8 : Int32) (t0 : Int32) : Option ((Int32 × Int32) ⊕ (Int32)) := (mfallsOf_58 n w x1 x2 x3 x4 x5 x6 x8 t0 0)
set_option maxHeartbeats 4000000 in
set_option maxRecDepth 100000 in
theorem cmfallsOf_57 (s0 : State) (D : va_G) (cB cI cJ cD : ClassId) (am a1 a2 a3 : Nat) (F : Nat → Int32) (G : Nat → Int64) (tp w oc : Nat → Int32) (n : Nat) (x1 : Int32) (x2 : Int32) (x3 : Int32) (x4 : Int32) (x5 : Int32) (x6 : Int32) (x8 : Int32) (t0 : Int32) {hi hm : zHp} {nx : Nat} {Q : Option Value → zHp → zHp → Nat → Prop} {x : (Int32 × Int32) ⊕ (Int32)} (hW : mW cB cI am a1 a2 a3 F G tp w oc hm) (h : mfallsOf_57 n w x1 x2 x3 x4 x5 x6 x8 t0 = some x) (hL6 : ∀ s : Int32 × Int32, x = (.inl s) → zV s0 D (zty cB cI cJ cD) yX12_fallsOf cX12_fallsOf 9 (some .int) 5 124 0 0 6 [(0, .ref am), (1, .int x1), (2, .int x2), (3, .int x3), (4, .int x4), (5, .int x5), (6, .int x6), (7, .int s.1), (8, .int s.2)] [] hi hm nx Q) (hQ : ∀ r : Int32, x = (.inr r) → Q (some (.int r)) hi hm nx) : zV s0 D (zty cB cI cJ cD) yX12_fallsOf cX12_fallsOf 9 (some .int) 5 124 0 0 57 [(0, .ref am), (1, .int x1), (2, .int x2), (3, .int x3), (4, .int x4), (5, .int x5), (6, .int x6), (8, .int x8)] [.int t0] hi hm nx Q := by
  unfold mfallsOf_57 at h
  refine zV_blk (pc' := 58) (lo' := [(0, .ref am), (1, .int x1), (2, .int x2), (3, .int x3), (4, .int x4), (5, .int x5), (6, .int x6), (8, .int x8)]) (st' := [.int 0, .int t0]) [.iconst 0] (by decide +kernel) rfl ?_
  refine zV_pick (lo2 := [(0, .ref am), (1, .int x1), (2, .int x2), (3, .int x3), (4, .int x4), (5, .int x5), (6, .int x6), (8, .int x8)]) [0, 1, 2, 3, 4, 5, 6, 7] rfl ?_
  exact cmfallsOf_58 s0 D cB cI cJ cD am a1 a2 a3 F G tp w oc n x1 x2 x3 x4 x5 x6 x8 t0 0 hW h hL6 hQ
def mfallsOf_6 (n : Nat) (w : Nat → Int32) (x1 : Int32) (x2 : Int32) (x3 : Int32) (x4 : Int32) (x5 : Int32) (x6 : Int32) (s : Int32 × Int32) : Option ((Int32 × Int32) ⊕ (Int32)) := (if ((x2 + x3) : Int32) ≤ (s.2 : Int32) then some (.inr s.1) else (misDate n w x1 (s.2 : Int32).toInt64 x4 x5).bind (fun v1 => (if v1 = true then (mnumberOf n w x1 (s.2 : Int32).toInt64 x4 x5).bind (fun v2 => (mweekdayOf w x1 v2).bind (fun v3 => (if (v3 : Int32) = (x6 : Int32) then (mfallsOf_58 n w x1 x2 x3 x4 x5 x6 s.2 s.1 1) else (mfallsOf_57 n w x1 x2 x3 x4 x5 x6 s.2 s.1)))) else (mfallsOf_57 n w x1 x2 x3 x4 x5 x6 s.2 s.1))))
set_option maxHeartbeats 4000000 in
set_option maxRecDepth 100000 in
theorem cmfallsOf_6 (s0 : State) (D : va_G) (cB cI cJ cD : ClassId) (am a1 a2 a3 : Nat) (F : Nat → Int32) (G : Nat → Int64) (tp : Nat → Int32) (w : Nat → Int32) (oc : Nat → Int32) (n : Nat) (x1 : Int32) (x2 : Int32) (x3 : Int32) (x4 : Int32) (x5 : Int32) (x6 : Int32) (s : Int32 × Int32) (x : (Int32 × Int32) ⊕ (Int32)) {hi hm : zHp} {nx : Nat} {Q : Option Value → zHp → zHp → Nat → Prop} (hW : mW cB cI am a1 a2 a3 F G tp w oc hm) (h : mfallsOf_6 n w x1 x2 x3 x4 x5 x6 s = some x) (hL6 : ∀ s : Int32 × Int32, x = (.inl s) → zV s0 D (zty cB cI cJ cD) yX12_fallsOf cX12_fallsOf 9 (some .int) 5 124 0 0 6 [(0, .ref am), (1, .int x1), (2, .int x2), (3, .int x3), (4, .int x4), (5, .int x5), (6, .int x6), (7, .int s.1), (8, .int s.2)] [] hi hm nx Q) (hQ : ∀ r : Int32, x = (.inr r) → Q (some (.int r)) hi hm nx) : zV s0 D (zty cB cI cJ cD) yX12_fallsOf cX12_fallsOf 9 (some .int) 5 124 0 0 6 [(0, .ref am), (1, .int x1), (2, .int x2), (3, .int x3), (4, .int x4), (5, .int x5), (6, .int x6), (7, .int s.1), (8, .int s.2)] [] hi hm nx Q := by
  unfold mfallsOf_6 at h
  refine zV_blk (pc' := 11) (lo' := [(0, .ref am), (1, .int x1), (2, .int x2), (3, .int x3), (4, .int x4), (5, .int x5), (6, .int x6), (7, .int s.1), (8, .int s.2)]) (st' := [.int (x2 + x3), .int s.2]) [.iload 8, .iload_n 2, .iload_n 3, .iadd] (by decide +kernel) rfl ?_
  refine zV_icmp_ge (tgt := 70) (off := 59) (by decide +kernel) (by decide) (fun q => ?_) (fun q => ?_)
  · replace h := zif_pos q h
    clear q
    refine zV_blk (pc' := 72) (lo' := [(0, .ref am), (1, .int x1), (2, .int x2), (3, .int x3), (4, .int x4), (5, .int x5), (6, .int x6), (7, .int s.1), (8, .int s.2)]) (st' := [.int s.1]) [.iload 7] (by decide +kernel) rfl ?_
    obtain rfl := Option.some.inj h
    exact zV_iret rfl (by decide +kernel) (hQ _ rfl)
  · replace h := zif_neg q h
    clear q
    refine zV_blk (pc' := 25) (lo' := [(0, .ref am), (1, .int x1), (2, .int x2), (3, .int x3), (4, .int x4), (5, .int x5), (6, .int x6), (7, .int s.1), (8, .int s.2)]) (st' := [.int x5, .int x4, .long (s.2 : Int32).toInt64, .int x1, .ref am, .int s.1]) [.iload 7, .aload_n 0, .iload_n 1, .iload 8, .i2l, .iload 4, .iload 5] (by decide +kernel) rfl ?_
    obtain ⟨v1, hv1, h⟩ := zbind h
    refine m_cR (idx := 337) (rest := [.int s.1]) hW (cmisDate s0 D cB cI cJ cD am a1 a2 a3 F G tp w oc n x1 (s.2 : Int32).toInt64 x4 x5 v1 hv1) oX12_isDate rfl (zT_mem 1868 (by decide +kernel) rfl) (zT_mem 1870 (by decide +kernel) rfl) (zT_mem 70 (by decide +kernel) rfl) rfl rfl (Nat.le_of_ble_eq_true rfl) ⟨by decide, by decide⟩ (by decide +kernel) ?_
    refine zV_eq (st2 := [.int (zb v1), .int s.1]) rfl rfl rfl rfl ?_
    refine zV_bif_eq (tgt := 57) (off := 29) (by decide +kernel) (by decide) (fun q => ?_) (fun q => ?_)
    · replace h := zif_neg q h
      clear q
      refine zV_pick (lo2 := [(0, .ref am), (1, .int x1), (2, .int x2), (3, .int x3), (4, .int x4), (5, .int x5), (6, .int x6), (8, .int s.2)]) [0, 1, 2, 3, 4, 5, 6, 8] rfl ?_
      exact cmfallsOf_57 s0 D cB cI cJ cD am a1 a2 a3 F G tp w oc n x1 x2 x3 x4 x5 x6 s.2 s.1 hW h hL6 hQ
    · replace h := zif_pos q h
      clear q
      refine zV_blk (pc' := 42) (lo' := [(0, .ref am), (1, .int x1), (2, .int x2), (3, .int x3), (4, .int x4), (5, .int x5), (6, .int x6), (7, .int s.1), (8, .int s.2)]) (st' := [.int x5, .int x4, .long (s.2 : Int32).toInt64, .int x1, .ref am, .int x1, .ref am, .int s.1]) [.aload_n 0, .iload_n 1, .aload_n 0, .iload_n 1, .iload 8, .i2l, .iload 4, .iload 5] (by decide +kernel) rfl ?_
      obtain ⟨v2, hv2, h⟩ := zbind h
      refine m_cR (idx := 341) (rest := [.int x1, .ref am, .int s.1]) hW (cmnumberOf s0 D cB cI cJ cD am a1 a2 a3 F G tp w oc n x1 (s.2 : Int32).toInt64 x4 x5 v2 hv2) oX12_numberOf rfl (zT_mem 1872 (by decide +kernel) rfl) (zT_mem 1874 (by decide +kernel) rfl) (zT_mem 71 (by decide +kernel) rfl) rfl rfl (Nat.le_of_ble_eq_true rfl) ⟨by decide, by decide⟩ (by decide +kernel) ?_
      refine zV_eq (st2 := [.long v2, .int x1, .ref am, .int s.1]) rfl rfl rfl rfl ?_
      obtain ⟨v3, hv3, h⟩ := zbind h
      refine m_cR (idx := 269) (rest := [.int s.1]) hW (cmweekdayOf s0 D cB cI cJ cD am a1 a2 a3 F G tp w oc x1 v2 v3 hv3) oX12_weekdayOf rfl (zT_mem 1860 (by decide +kernel) rfl) (zT_mem 1862 (by decide +kernel) rfl) (zT_mem 69 (by decide +kernel) rfl) rfl rfl (Nat.le_of_ble_eq_true rfl) ⟨by decide, by decide⟩ (by decide +kernel) ?_
      refine zV_eq (st2 := [.int v3, .int s.1]) rfl rfl rfl rfl ?_
      refine zV_blk (pc' := 50) (lo' := [(0, .ref am), (1, .int x1), (2, .int x2), (3, .int x3), (4, .int x4), (5, .int x5), (6, .int x6), (7, .int s.1), (8, .int s.2)]) (st' := [.int x6, .int v3, .int s.1]) [.iload 6] (by decide +kernel) rfl ?_
      refine zV_icmp_ne (tgt := 57) (off := 7) (by decide +kernel) (by decide) (fun q => ?_) (fun q => ?_)
      · replace h := zif_neg q h
        clear q
        refine zV_pick (lo2 := [(0, .ref am), (1, .int x1), (2, .int x2), (3, .int x3), (4, .int x4), (5, .int x5), (6, .int x6), (8, .int s.2)]) [0, 1, 2, 3, 4, 5, 6, 8] rfl ?_
        exact cmfallsOf_57 s0 D cB cI cJ cD am a1 a2 a3 F G tp w oc n x1 x2 x3 x4 x5 x6 s.2 s.1 hW h hL6 hQ
      · replace h := zif_pos q h
        clear q
        refine zV_blk (pc' := 54) (lo' := [(0, .ref am), (1, .int x1), (2, .int x2), (3, .int x3), (4, .int x4), (5, .int x5), (6, .int x6), (7, .int s.1), (8, .int s.2)]) (st' := [.int 1, .int s.1]) [.iconst 1] (by decide +kernel) rfl ?_
        refine zV_goto (tgt := 58) (off := 4) (by decide +kernel) (by decide) ?_
        refine zV_pick (lo2 := [(0, .ref am), (1, .int x1), (2, .int x2), (3, .int x3), (4, .int x4), (5, .int x5), (6, .int x6), (8, .int s.2)]) [0, 1, 2, 3, 4, 5, 6, 8] rfl ?_
        exact cmfallsOf_58 s0 D cB cI cJ cD am a1 a2 a3 F G tp w oc n x1 x2 x3 x4 x5 x6 s.2 s.1 1 hW h hL6 hQ
theorem cmfallsOf_6L (s0 : State) (D : va_G) (cB cI cJ cD : ClassId) (am a1 a2 a3 : Nat) (F : Nat → Int32) (G : Nat → Int64) (tp : Nat → Int32) (w : Nat → Int32) (oc : Nat → Int32) (n : Nat) (x1 : Int32) (x2 : Int32) (x3 : Int32) (x4 : Int32) (x5 : Int32) (x6 : Int32) : ∀ (k : Nat) (s : Int32 × Int32) {hi hm : zHp} {nx : Nat} {Q : Option Value → zHp → zHp → Nat → Prop} (_ : mW cB cI am a1 a2 a3 F G tp w oc hm) {x : Int32} (_ : zloop (mfallsOf_6 n w x1 x2 x3 x4 x5 x6) k s = some x) (hQ : ∀ r : Int32, x = r → Q (some (.int r)) hi hm nx), zV s0 D (zty cB cI cJ cD) yX12_fallsOf cX12_fallsOf 9 (some .int) 5 124 0 0 6 [(0, .ref am), (1, .int x1), (2, .int x2), (3, .int x3), (4, .int x4), (5, .int x5), (6, .int x6), (7, .int s.1), (8, .int s.2)] [] hi hm nx Q
  | 0, s, _, _, _, _, hW, _, h, _ => by cases h
  | k + 1, s, hi, hm, nx, Q, hW, x, h, hQ => by
    obtain ⟨z, hz, h1, h2⟩ := zloop_succ h
    exact cmfallsOf_6 s0 D cB cI cJ cD am a1 a2 a3 F G tp w oc n x1 x2 x3 x4 x5 x6 s z hW hz (fun s' hs => cmfallsOf_6L s0 D cB cI cJ cD am a1 a2 a3 F G tp w oc n x1 x2 x3 x4 x5 x6 k s' hW (h1 s' hs) hQ) (fun r hr => hQ r (h2 _ hr).symm)
def mfallsOf (n : Nat) (w : Nat → Int32) (x1 : Int32) (x2 : Int32) (x3 : Int32) (x4 : Int32) (x5 : Int32) (x6 : Int32) : Option (Int32) := (zloop (mfallsOf_6 n w x1 x2 x3 x4 x5 x6) n (0, x2))
theorem oX12_fallsOf : zO yX12_fallsOf cX12_fallsOf 9 (some .int) 6 := ⟨zT_mem 1972 (by decide +kernel) rfl, zT_mem 94 (by decide +kernel) rfl, by decide +kernel, by decide +kernel, by decide +kernel⟩
set_option maxHeartbeats 4000000 in
set_option maxRecDepth 100000 in
theorem cmfallsOf (s0 : State) (D : va_G) (cB cI cJ cD : ClassId) (am a1 a2 a3 : Nat) (F : Nat → Int32) (G : Nat → Int64) (tp w oc : Nat → Int32) (n : Nat) (x1 : Int32) (x2 : Int32) (x3 : Int32) (x4 : Int32) (x5 : Int32) (x6 : Int32) (x : Int32) (h : mfallsOf n w x1 x2 x3 x4 x5 x6 = some x) : mR s0 D cB cI cJ cD am a1 a2 a3 yX12_fallsOf cX12_fallsOf 9 (some .int) 5 124 [.int x1, .int x2, .int x3, .int x4, .int x5, .int x6] F G tp w oc (some (.int x)) := by
  intro hi hm nx Q hW hQ0
  have hQ : ∀ r : Int32, x = r → Q (some (.int r)) hi hm nx := fun r hr => by subst hr; exact hQ0
  refine zM_of (by decide +kernel) (Nat.le_of_ble_eq_true rfl) ?_
  unfold mfallsOf at h
  refine zV_eq (lo2 := [(0, .ref am), (1, .int x1), (2, .int x2), (3, .int x3), (4, .int x4), (5, .int x5), (6, .int x6)]) rfl rfl rfl rfl ?_
  refine zV_blk (pc' := 6) (lo' := [(8, .int x2), (7, .int 0), (0, .ref am), (1, .int x1), (2, .int x2), (3, .int x3), (4, .int x4), (5, .int x5), (6, .int x6)]) (st' := []) [.iconst 0, .istore 7, .iload_n 2, .istore 8] (by decide +kernel) rfl ?_
  refine zV_pick (lo2 := [(0, .ref am), (1, .int x1), (2, .int x2), (3, .int x3), (4, .int x4), (5, .int x5), (6, .int x6), (7, .int 0), (8, .int x2)]) [2, 3, 4, 5, 6, 7, 8, 1, 0] rfl ?_
  exact cmfallsOf_6L s0 D cB cI cJ cD am a1 a2 a3 F G tp w oc n x1 x2 x3 x4 x5 x6 n (0, x2) hW h hQ

def misDayOfMonth (w : Nat → Int32) (x1 : Int32) (x2 : Int32) (x3 : Int32) : Option (Bool) := (misMonth w x1 x2).bind (fun v1 => (if v1 = true then (mmonthDays w x1 x2 1).bind (fun v2 => (misIn (x3 : Int32).toInt64 0 ((v2 - 1) : Int32).toInt64).bind (fun v3 => (if v3 = true then some true else some false))) else some false))
theorem oX12_isDayOfMonth : zO yX12_isDayOfMonth cX12_isDayOfMonth 4 (some .boolean) 3 := ⟨zT_mem 1964 (by decide +kernel) rfl, zT_mem 94 (by decide +kernel) rfl, by decide +kernel, by decide +kernel, by decide +kernel⟩
set_option maxHeartbeats 4000000 in
set_option maxRecDepth 100000 in
theorem cmisDayOfMonth (s0 : State) (D : va_G) (cB cI cJ cD : ClassId) (am a1 a2 a3 : Nat) (F : Nat → Int32) (G : Nat → Int64) (tp w oc : Nat → Int32) (x1 : Int32) (x2 : Int32) (x3 : Int32) (x : Bool) (h : misDayOfMonth w x1 x2 x3 = some x) : mR s0 D cB cI cJ cD am a1 a2 a3 yX12_isDayOfMonth cX12_isDayOfMonth 4 (some .boolean) 2 47 [.int x1, .int x2, .int x3] F G tp w oc (some (.int (zb x))) := by
  intro hi hm nx Q hW hQ0
  have hQ : ∀ r : Bool, x = r → Q (some (.int (zb r))) hi hm nx := fun r hr => by subst hr; exact hQ0
  refine zM_of (by decide +kernel) (Nat.le_of_ble_eq_true rfl) ?_
  unfold misDayOfMonth at h
  refine zV_eq (lo2 := [(0, .ref am), (1, .int x1), (2, .int x2), (3, .int x3)]) rfl rfl rfl rfl ?_
  refine zV_blk (pc' := 3) (lo' := [(0, .ref am), (1, .int x1), (2, .int x2), (3, .int x3)]) (st' := [.int x2, .int x1, .ref am]) [.aload_n 0, .iload_n 1, .iload_n 2] (by decide +kernel) rfl ?_
  obtain ⟨v1, hv1, h⟩ := zbind h
  refine m_cR (idx := 258) (rest := []) hW (cmisMonth s0 D cB cI cJ cD am a1 a2 a3 F G tp w oc x1 x2 v1 hv1) oX12_isMonth rfl (zT_mem 1716 (by decide +kernel) rfl) (zT_mem 1718 (by decide +kernel) rfl) (zT_mem 53 (by decide +kernel) rfl) rfl rfl (Nat.le_of_ble_eq_true rfl) ⟨by decide, by decide⟩ (by decide +kernel) ?_
  refine zV_eq (st2 := [.int (zb v1)]) rfl rfl rfl rfl ?_
  refine zV_bif_eq (tgt := 32) (off := 26) (by decide +kernel) (by decide) (fun q => ?_) (fun q => ?_)
  · replace h := zif_neg q h
    clear q
    refine zV_blk (pc' := 33) (lo' := [(0, .ref am), (1, .int x1), (2, .int x2), (3, .int x3)]) (st' := [.int 0]) [.iconst 0] (by decide +kernel) rfl ?_
    obtain rfl := Option.some.inj h
    refine zV_eq (st2 := [.int (zb false)]) rfl rfl rfl rfl ?_
    exact zV_bret rfl (by decide +kernel) (hQ _ rfl)
  · replace h := zif_pos q h
    clear q
    refine zV_blk (pc' := 16) (lo' := [(0, .ref am), (1, .int x1), (2, .int x2), (3, .int x3)]) (st' := [.int 1, .int x2, .int x1, .ref am, .long 0, .long (x3 : Int32).toInt64]) [.iload_n 3, .i2l, .lconst 0, .aload_n 0, .iload_n 1, .iload_n 2, .iconst 1] (by decide +kernel) rfl ?_
    obtain ⟨v2, hv2, h⟩ := zbind h
    refine m_cR (idx := 251) (rest := [.long 0, .long (x3 : Int32).toInt64]) hW (cmmonthDays s0 D cB cI cJ cD am a1 a2 a3 F G tp w oc x1 x2 1 v2 hv2) oX12_monthDays rfl (zT_mem 1720 (by decide +kernel) rfl) (zT_mem 1722 (by decide +kernel) rfl) (zT_mem 54 (by decide +kernel) rfl) rfl rfl (Nat.le_of_ble_eq_true rfl) ⟨by decide, by decide⟩ (by decide +kernel) ?_
    refine zV_eq (st2 := [.int v2, .long 0, .long (x3 : Int32).toInt64]) rfl rfl rfl rfl ?_
    refine zV_blk (pc' := 22) (lo' := [(0, .ref am), (1, .int x1), (2, .int x2), (3, .int x3)]) (st' := [.long ((v2 - 1) : Int32).toInt64, .long 0, .long (x3 : Int32).toInt64]) [.iconst 1, .isub, .i2l] (by decide +kernel) rfl ?_
    obtain ⟨v3, hv3, h⟩ := zbind h
    refine zV_sC (idx := 36) (rest := []) (cmisIn s0 D cB cI cJ cD (x3 : Int32).toInt64 0 ((v2 - 1) : Int32).toInt64 v3 hv3) oX12_isIn (zT_mem 1531 (by decide +kernel) rfl) (zT_mem 1532 (by decide +kernel) rfl) rfl rfl (Nat.le_of_ble_eq_true rfl) ⟨by decide, by decide⟩ (by decide +kernel) ?_
    refine zV_eq (st2 := [.int (zb v3)]) rfl rfl rfl rfl ?_
    refine zV_bif_eq (tgt := 32) (off := 7) (by decide +kernel) (by decide) (fun q => ?_) (fun q => ?_)
    · replace h := zif_neg q h
      clear q
      refine zV_blk (pc' := 33) (lo' := [(0, .ref am), (1, .int x1), (2, .int x2), (3, .int x3)]) (st' := [.int 0]) [.iconst 0] (by decide +kernel) rfl ?_
      obtain rfl := Option.some.inj h
      refine zV_eq (st2 := [.int (zb false)]) rfl rfl rfl rfl ?_
      exact zV_bret rfl (by decide +kernel) (hQ _ rfl)
    · replace h := zif_pos q h
      clear q
      refine zV_blk (pc' := 29) (lo' := [(0, .ref am), (1, .int x1), (2, .int x2), (3, .int x3)]) (st' := [.int 1]) [.iconst 1] (by decide +kernel) rfl ?_
      refine zV_goto (tgt := 33) (off := 4) (by decide +kernel) (by decide) ?_
      obtain rfl := Option.some.inj h
      refine zV_eq (st2 := [.int (zb true)]) rfl rfl rfl rfl ?_
      exact zV_bret rfl (by decide +kernel) (hQ _ rfl)

def mfalls (n : Nat) (F : Nat → Int32) (w : Nat → Int32) (x1 : Int32) (x2 : Int32) (x3 : Int32) (x4 : Int32) (x5 : Int32) (x6 : Int32) : Option (Int32 × (Nat → Int32)) := (misThere w x1).bind (fun v1 => (if v1 = true then (misRun x2 x3 5000).bind (fun v2 => (if v2 = true then (mbank x1).bind (fun v3 => (misDayOfMonth w v3 x4 x5).bind (fun v4 => (if v4 = true then (mbank x1).bind (fun v5 => (misWeekday w v5 x6).bind (fun v6 => (if v6 = true then (mbank x1).bind (fun v7 => (mfallsOf n w v7 x2 x3 x4 x5 x6).bind (fun v8 => some (v8, (upd F 0 0)))) else some ((-1), (upd F 0 0))))) else some ((-1), (upd F 0 0))))) else some ((-1), (upd F 0 0)))) else some ((-1), (upd F 0 0))))
theorem oX12_falls : zO yX12_falls cX12_falls 7 (some .int) 6 := ⟨zT_mem 1957 (by decide +kernel) rfl, zT_mem 94 (by decide +kernel) rfl, by decide +kernel, by decide +kernel, by decide +kernel⟩
set_option maxHeartbeats 4000000 in
set_option maxRecDepth 100000 in
theorem cmfalls (s0 : State) (D : va_G) (cB cI cJ cD : ClassId) (am a1 a2 a3 : Nat) (F : Nat → Int32) (G : Nat → Int64) (tp w oc : Nat → Int32) (n : Nat) (x1 : Int32) (x2 : Int32) (x3 : Int32) (x4 : Int32) (x5 : Int32) (x6 : Int32) (x : Int32 × (Nat → Int32)) (h : mfalls n F w x1 x2 x3 x4 x5 x6 = some x) : mC s0 D cB cI cJ cD am a1 a2 a3 yX12_falls cX12_falls 7 (some .int) 6 152 [.int x1, .int x2, .int x3, .int x4, .int x5, .int x6] F G tp w oc (some (.int x.1)) x.2 G tp w oc := by
  intro hi hm nx Q hW hQ0
  have hQ : ∀ r : Int32 × (Nat → Int32), x = r → ∀ hm', mW cB cI am a1 a2 a3 r.2 G tp w oc hm' → mFr am a1 a2 a3 hm hm' → Q (some (.int r.1)) hi hm' nx := fun r hr => by subst hr; exact hQ0
  have hFr : mFr am a1 a2 a3 hm hm := mFr.rf
  clear hQ0
  refine zM_of (by decide +kernel) (Nat.le_of_ble_eq_true rfl) ?_
  unfold mfalls at h
  refine zV_eq (lo2 := [(0, .ref am), (1, .int x1), (2, .int x2), (3, .int x3), (4, .int x4), (5, .int x5), (6, .int x6)]) rfl rfl rfl rfl ?_
  refine zV_blk (pc' := 2) (lo' := [(0, .ref am), (1, .int x1), (2, .int x2), (3, .int x3), (4, .int x4), (5, .int x5), (6, .int x6)]) (st' := [.int 0, .ref am]) [.aload_n 0, .iconst 0] (by decide +kernel) rfl ?_
  refine m_put (idx := 25) (k := 0) (v := .int 0) (F' := (upd F 0 0)) (G' := G) hW m_in12 (by decide) (zT_mem 1440 (by decide +kernel) rfl) rfl rfl rfl rfl (by decide +kernel) (fun hm hW hFr2 => ?_)
  replace hFr := hFr.tr hFr2; clear hFr2
  refine zV_blk (pc' := 7) (lo' := [(0, .ref am), (1, .int x1), (2, .int x2), (3, .int x3), (4, .int x4), (5, .int x5), (6, .int x6)]) (st' := [.int x1, .ref am]) [.aload_n 0, .iload_n 1] (by decide +kernel) rfl ?_
  obtain ⟨v1, hv1, h⟩ := zbind h
  refine m_cR (idx := 273) (rest := []) hW (cmisThere s0 D cB cI cJ cD am a1 a2 a3 (upd F 0 0) G tp w oc x1 v1 hv1) oX12_isThere rfl (zT_mem 1686 (by decide +kernel) rfl) (zT_mem 1688 (by decide +kernel) rfl) (zT_mem 49 (by decide +kernel) rfl) rfl rfl (Nat.le_of_ble_eq_true rfl) ⟨by decide, by decide⟩ (by decide +kernel) ?_
  refine zV_eq (st2 := [.int (zb v1)]) rfl rfl rfl rfl ?_
  refine zV_bif_eq (tgt := 52) (off := 42) (by decide +kernel) (by decide) (fun q => ?_) (fun q => ?_)
  · replace h := zif_neg q h
    clear q
    refine zV_blk (pc' := 53) (lo' := [(0, .ref am), (1, .int x1), (2, .int x2), (3, .int x3), (4, .int x4), (5, .int x5), (6, .int x6)]) (st' := [.int (-1)]) [.iconst (-1)] (by decide +kernel) rfl ?_
    obtain rfl := Option.some.inj h
    exact zV_iret rfl (by decide +kernel) (hQ _ rfl hm hW hFr)
  · replace h := zif_pos q h
    clear q
    refine zV_blk (pc' := 18) (lo' := [(0, .ref am), (1, .int x1), (2, .int x2), (3, .int x3), (4, .int x4), (5, .int x5), (6, .int x6)]) (st' := [.int 5000, .int x3, .int x2]) [.iload_n 2, .iload_n 3, .sipush 5000] (by decide +kernel) rfl ?_
    obtain ⟨v2, hv2, h⟩ := zbind h
    refine zV_sC (idx := 381) (rest := []) (cmisRun s0 D cB cI cJ cD x2 x3 5000 v2 hv2) oX12_isRun (zT_mem 1958 (by decide +kernel) rfl) (zT_mem 1959 (by decide +kernel) rfl) rfl rfl (Nat.le_of_ble_eq_true rfl) ⟨by decide, by decide⟩ (by decide +kernel) ?_
    refine zV_eq (st2 := [.int (zb v2)]) rfl rfl rfl rfl ?_
    refine zV_bif_eq (tgt := 52) (off := 31) (by decide +kernel) (by decide) (fun q => ?_) (fun q => ?_)
    · replace h := zif_neg q h
      clear q
      refine zV_blk (pc' := 53) (lo' := [(0, .ref am), (1, .int x1), (2, .int x2), (3, .int x3), (4, .int x4), (5, .int x5), (6, .int x6)]) (st' := [.int (-1)]) [.iconst (-1)] (by decide +kernel) rfl ?_
      obtain rfl := Option.some.inj h
      exact zV_iret rfl (by decide +kernel) (hQ _ rfl hm hW hFr)
    · replace h := zif_pos q h
      clear q
      refine zV_blk (pc' := 26) (lo' := [(0, .ref am), (1, .int x1), (2, .int x2), (3, .int x3), (4, .int x4), (5, .int x5), (6, .int x6)]) (st' := [.int x1, .ref am]) [.aload_n 0, .iload_n 1] (by decide +kernel) rfl ?_
      obtain ⟨v3, hv3, h⟩ := zbind h
      refine zV_sC (idx := 118) (rest := [.ref am]) (cmbank s0 D cB cI cJ cD x1 v3 hv3) oX12_bank (zT_mem 1671 (by decide +kernel) rfl) (zT_mem 1672 (by decide +kernel) rfl) rfl rfl (Nat.le_of_ble_eq_true rfl) ⟨by decide, by decide⟩ (by decide +kernel) ?_
      refine zV_eq (st2 := [.int v3, .ref am]) rfl rfl rfl rfl ?_
      refine zV_blk (pc' := 33) (lo' := [(0, .ref am), (1, .int x1), (2, .int x2), (3, .int x3), (4, .int x4), (5, .int x5), (6, .int x6)]) (st' := [.int x5, .int x4, .int v3, .ref am]) [.iload 4, .iload 5] (by decide +kernel) rfl ?_
      obtain ⟨v4, hv4, h⟩ := zbind h
      refine m_cR (idx := 385) (rest := []) hW (cmisDayOfMonth s0 D cB cI cJ cD am a1 a2 a3 (upd F 0 0) G tp w oc v3 x4 x5 v4 hv4) oX12_isDayOfMonth rfl (zT_mem 1961 (by decide +kernel) rfl) (zT_mem 1963 (by decide +kernel) rfl) (zT_mem 79 (by decide +kernel) rfl) rfl rfl (Nat.le_of_ble_eq_true rfl) ⟨by decide, by decide⟩ (by decide +kernel) ?_
      refine zV_eq (st2 := [.int (zb v4)]) rfl rfl rfl rfl ?_
      refine zV_bif_eq (tgt := 52) (off := 16) (by decide +kernel) (by decide) (fun q => ?_) (fun q => ?_)
      · replace h := zif_neg q h
        clear q
        refine zV_blk (pc' := 53) (lo' := [(0, .ref am), (1, .int x1), (2, .int x2), (3, .int x3), (4, .int x4), (5, .int x5), (6, .int x6)]) (st' := [.int (-1)]) [.iconst (-1)] (by decide +kernel) rfl ?_
        obtain rfl := Option.some.inj h
        exact zV_iret rfl (by decide +kernel) (hQ _ rfl hm hW hFr)
      · replace h := zif_pos q h
        clear q
        refine zV_blk (pc' := 41) (lo' := [(0, .ref am), (1, .int x1), (2, .int x2), (3, .int x3), (4, .int x4), (5, .int x5), (6, .int x6)]) (st' := [.int x1, .ref am]) [.aload_n 0, .iload_n 1] (by decide +kernel) rfl ?_
        obtain ⟨v5, hv5, h⟩ := zbind h
        refine zV_sC (idx := 118) (rest := [.ref am]) (cmbank s0 D cB cI cJ cD x1 v5 hv5) oX12_bank (zT_mem 1671 (by decide +kernel) rfl) (zT_mem 1672 (by decide +kernel) rfl) rfl rfl (Nat.le_of_ble_eq_true rfl) ⟨by decide, by decide⟩ (by decide +kernel) ?_
        refine zV_eq (st2 := [.int v5, .ref am]) rfl rfl rfl rfl ?_
        refine zV_blk (pc' := 46) (lo' := [(0, .ref am), (1, .int x1), (2, .int x2), (3, .int x3), (4, .int x4), (5, .int x5), (6, .int x6)]) (st' := [.int x6, .int v5, .ref am]) [.iload 6] (by decide +kernel) rfl ?_
        obtain ⟨v6, hv6, h⟩ := zbind h
        refine m_cR (idx := 388) (rest := []) hW (cmisWeekday s0 D cB cI cJ cD am a1 a2 a3 (upd F 0 0) G tp w oc v5 x6 v6 hv6) oX12_isWeekday rfl (zT_mem 1965 (by decide +kernel) rfl) (zT_mem 1967 (by decide +kernel) rfl) (zT_mem 80 (by decide +kernel) rfl) rfl rfl (Nat.le_of_ble_eq_true rfl) ⟨by decide, by decide⟩ (by decide +kernel) ?_
        refine zV_eq (st2 := [.int (zb v6)]) rfl rfl rfl rfl ?_
        refine zV_bif_ne (tgt := 54) (off := 5) (by decide +kernel) (by decide) (fun q => ?_) (fun q => ?_)
        · replace h := zif_pos q h
          clear q
          refine zV_blk (pc' := 56) (lo' := [(0, .ref am), (1, .int x1), (2, .int x2), (3, .int x3), (4, .int x4), (5, .int x5), (6, .int x6)]) (st' := [.int x1, .ref am]) [.aload_n 0, .iload_n 1] (by decide +kernel) rfl ?_
          obtain ⟨v7, hv7, h⟩ := zbind h
          refine zV_sC (idx := 118) (rest := [.ref am]) (cmbank s0 D cB cI cJ cD x1 v7 hv7) oX12_bank (zT_mem 1671 (by decide +kernel) rfl) (zT_mem 1672 (by decide +kernel) rfl) rfl rfl (Nat.le_of_ble_eq_true rfl) ⟨by decide, by decide⟩ (by decide +kernel) ?_
          refine zV_eq (st2 := [.int v7, .ref am]) rfl rfl rfl rfl ?_
          refine zV_blk (pc' := 67) (lo' := [(0, .ref am), (1, .int x1), (2, .int x2), (3, .int x3), (4, .int x4), (5, .int x5), (6, .int x6)]) (st' := [.int x6, .int x5, .int x4, .int x3, .int x2, .int v7, .ref am]) [.iload_n 2, .iload_n 3, .iload 4, .iload 5, .iload 6] (by decide +kernel) rfl ?_
          obtain ⟨v8, hv8, h⟩ := zbind h
          refine m_cR (idx := 391) (rest := []) hW (cmfallsOf s0 D cB cI cJ cD am a1 a2 a3 (upd F 0 0) G tp w oc n v7 x2 x3 x4 x5 x6 v8 hv8) oX12_fallsOf rfl (zT_mem 1969 (by decide +kernel) rfl) (zT_mem 1971 (by decide +kernel) rfl) (zT_mem 81 (by decide +kernel) rfl) rfl rfl (Nat.le_of_ble_eq_true rfl) ⟨by decide, by decide⟩ (by decide +kernel) ?_
          refine zV_eq (st2 := [.int v8]) rfl rfl rfl rfl ?_
          obtain rfl := Option.some.inj h
          exact zV_iret rfl (by decide +kernel) (hQ _ rfl hm hW hFr)
        · replace h := zif_neg q h
          clear q
          refine zV_blk (pc' := 53) (lo' := [(0, .ref am), (1, .int x1), (2, .int x2), (3, .int x3), (4, .int x4), (5, .int x5), (6, .int x6)]) (st' := [.int (-1)]) [.iconst (-1)] (by decide +kernel) rfl ?_
          obtain rfl := Option.some.inj h
          exact zV_iret rfl (by decide +kernel) (hQ _ rfl hm hW hFr)

def mnth_155 (n : Nat) (F : Nat → Int32) (w : Nat → Int32) (x2 : Int32) (x3 : Int32) (x4 : Int32) (x6 : Int32) (x7 : Int32) (x8 : Int32) (x9 : Int32) (x10 : Int32) : Option ((Int32 × Int32) ⊕ (Int64 × (Nat → Int32))) := some (.inl (x9, (x10 + 1)))
set_option maxHeartbeats 4000000 in
set_option maxRecDepth 100000 in
theorem cmnth_155 (s0 : State) (D : va_G) (cB cI cJ cD : ClassId) (am a1 a2 a3 : Nat) (F : Nat → Int32) (G : Nat → Int64) (tp w oc : Nat → Int32) (n : Nat) (x2 : Int32) (x3 : Int32) (x4 : Int32) (x6 : Int32) (x7 : Int32) (x8 : Int32) (x9 : Int32) (x10 : Int32) {hi hm : zHp} {nx : Nat} {Q : Option Value → zHp → zHp → Nat → Prop} {hm0 : zHp} {x : (Int32 × Int32) ⊕ (Int64 × (Nat → Int32))} (hW : mW cB cI am a1 a2 a3 F G tp w oc hm) (hFr : mFr am a1 a2 a3 hm0 hm) (h : mnth_155 n F w x2 x3 x4 x6 x7 x8 x9 x10 = some x) (hL93 : ∀ s : Int32 × Int32, x = (.inl s) → ∀ hm', mW cB cI am a1 a2 a3 F G tp w oc hm' → mFr am a1 a2 a3 hm0 hm' → zV s0 D (zty cB cI cJ cD) yX12_nth cX12_nth 13 (some .long) 5 124 0 0 93 [(0, .ref am), (2, .int x2), (3, .int x3), (4, .int x4), (6, .int x6), (7, .int x7), (8, .int x8), (9, .int s.1), (10, .int s.2)] [] hi hm' nx Q) (hQ : ∀ r : Int64 × (Nat → Int32), x = (.inr r) → ∀ hm', mW cB cI am a1 a2 a3 r.2 G tp w oc hm' → mFr am a1 a2 a3 hm0 hm' → Q (some (.long r.1)) hi hm' nx) : zV s0 D (zty cB cI cJ cD) yX12_nth cX12_nth 13 (some .long) 5 124 0 0 155 [(0, .ref am), (2, .int x2), (3, .int x3), (4, .int x4), (6, .int x6), (7, .int x7), (8, .int x8), (9, .int x9), (10, .int x10)] [] hi hm nx Q := by
  unfold mnth_155 at h
  refine zV_blk (pc' := 158) (lo' := [(10, .int (x10 + 1)), (0, .ref am), (2, .int x2), (3, .int x3), (4, .int x4), (6, .int x6), (7, .int x7), (8, .int x8), (9, .int x9)]) (st' := []) [.iinc 10 1] (by decide +kernel) rfl ?_
  refine zV_goto (tgt := 93) (off := -65) (by decide +kernel) (by decide) ?_
  obtain rfl := Option.some.inj h
  refine zV_pick (lo2 := [(0, .ref am), (2, .int x2), (3, .int x3), (4, .int x4), (6, .int x6), (7, .int x7), (8, .int x8), (9, .int x9), (10, .int (x10 + 1))]) [1, 2, 3, 4, 5, 6, 7, 8, 0] rfl ?_
  exact hL93 _ rfl hm hW hFr
def mnth_123 (n : Nat) (F : Nat → Int32) (w : Nat → Int32) (x2 : Int32) (x3 : Int32) (x4 : Int32) (x6 : Int32) (x7 : Int32) (x8 : Int32) (x9 : Int32) (x10 : Int32) (t1 : Int32) (t2 : Int64) (t3 : Int32) (t4 : Int32) : Option ((Int32 × Int32) ⊕ (Int64 × (Nat → Int32))) := (mnumberOf n w t1 t2 t3 t4).bind (fun v1 => (mweekdayOf w x7 v1).bind (fun v2 => (if (v2 : Int32) = (x4 : Int32) then (if ((x9 + (-1)) : Int32) = (0 : Int32) then some (.inr (v1, F)) else (mnth_155 n F w x2 x3 x4 x6 x7 x8 (x9 + (-1)) x10)) else (mnth_155 n F w x2 x3 x4 x6 x7 x8 x9 x10))))
set_option maxHeartbeats 4000000 in
set_option maxRecDepth 100000 in
theorem cmnth_123 (s0 : State) (D : va_G) (cB cI cJ cD : ClassId) (am a1 a2 a3 : Nat) (F : Nat → Int32) (G : Nat → Int64) (tp w oc : Nat → Int32) (n : Nat) (x2 : Int32) (x3 : Int32) (x4 : Int32) (x6 : Int32) (x7 : Int32) (x8 : Int32) (x9 : Int32) (x10 : Int32) (t1 : Int32) (t2 : Int64) (t3 : Int32) (t4 : Int32) {hi hm : zHp} {nx : Nat} {Q : Option Value → zHp → zHp → Nat → Prop} {hm0 : zHp} {x : (Int32 × Int32) ⊕ (Int64 × (Nat → Int32))} (hW : mW cB cI am a1 a2 a3 F G tp w oc hm) (hFr : mFr am a1 a2 a3 hm0 hm) (h : mnth_123 n F w x2 x3 x4 x6 x7 x8 x9 x10 t1 t2 t3 t4 = some x) (hL93 : ∀ s : Int32 × Int32, x = (.inl s) → ∀ hm', mW cB cI am a1 a2 a3 F G tp w oc hm' → mFr am a1 a2 a3 hm0 hm' → zV s0 D (zty cB cI cJ cD) yX12_nth cX12_nth 13 (some .long) 5 124 0 0 93 [(0, .ref am), (2, .int x2), (3, .int x3), (4, .int x4), (6, .int x6), (7, .int x7), (8, .int x8), (9, .int s.1), (10, .int s.2)] [] hi hm' nx Q) (hQ : ∀ r : Int64 × (Nat → Int32), x = (.inr r) → ∀ hm', mW cB cI am a1 a2 a3 r.2 G tp w oc hm' → mFr am a1 a2 a3 hm0 hm' → Q (some (.long r.1)) hi hm' nx) : zV s0 D (zty cB cI cJ cD) yX12_nth cX12_nth 13 (some .long) 5 124 0 0 123 [(0, .ref am), (2, .int x2), (3, .int x3), (4, .int x4), (6, .int x6), (7, .int x7), (8, .int x8), (9, .int x9), (10, .int x10)] [.int t4, .int t3, .long t2, .int t1, .ref am] hi hm nx Q := by
  unfold mnth_123 at h
  obtain ⟨v1, hv1, h⟩ := zbind h
  refine m_cR (idx := 341) (rest := []) hW (cmnumberOf s0 D cB cI cJ cD am a1 a2 a3 F G tp w oc n t1 t2 t3 t4 v1 hv1) oX12_numberOf rfl (zT_mem 1872 (by decide +kernel) rfl) (zT_mem 1874 (by decide +kernel) rfl) (zT_mem 71 (by decide +kernel) rfl) rfl rfl (Nat.le_of_ble_eq_true rfl) ⟨by decide, by decide⟩ (by decide +kernel) ?_
  refine zV_eq (st2 := [.long v1]) rfl rfl rfl rfl ?_
  refine zV_blk (pc' := 133) (lo' := [(11, .long v1), (0, .ref am), (2, .int x2), (3, .int x3), (4, .int x4), (6, .int x6), (7, .int x7), (8, .int x8), (9, .int x9), (10, .int x10)]) (st' := [.long v1, .int x7, .ref am]) [.lstore 11, .aload_n 0, .iload 7, .lload 11] (by decide +kernel) rfl ?_
  obtain ⟨v2, hv2, h⟩ := zbind h
  refine m_cR (idx := 269) (rest := []) hW (cmweekdayOf s0 D cB cI cJ cD am a1 a2 a3 F G tp w oc x7 v1 v2 hv2) oX12_weekdayOf rfl (zT_mem 1860 (by decide +kernel) rfl) (zT_mem 1862 (by decide +kernel) rfl) (zT_mem 69 (by decide +kernel) rfl) rfl rfl (Nat.le_of_ble_eq_true rfl) ⟨by decide, by decide⟩ (by decide +kernel) ?_
  refine zV_eq (st2 := [.int v2]) rfl rfl rfl rfl ?_
  refine zV_blk (pc' := 138) (lo' := [(11, .long v1), (0, .ref am), (2, .int x2), (3, .int x3), (4, .int x4), (6, .int x6), (7, .int x7), (8, .int x8), (9, .int x9), (10, .int x10)]) (st' := [.int x4, .int v2]) [.iload 4] (by decide +kernel) rfl ?_
  refine zV_icmp_eq (tgt := 144) (off := 6) (by decide +kernel) (by decide) (fun q => ?_) (fun q => ?_)
  · replace h := zif_pos q h
    clear q
    refine zV_blk (pc' := 149) (lo' := [(9, .int (x9 + (-1))), (11, .long v1), (0, .ref am), (2, .int x2), (3, .int x3), (4, .int x4), (6, .int x6), (7, .int x7), (8, .int x8), (10, .int x10)]) (st' := [.int (x9 + (-1))]) [.iinc 9 (-1), .iload 9] (by decide +kernel) rfl ?_
    refine zV_if_ne (tgt := 155) (off := 6) (by decide +kernel) (by decide) (fun q => ?_) (fun q => ?_)
    · replace h := zif_neg q h
      clear q
      refine zV_pick (lo2 := [(0, .ref am), (2, .int x2), (3, .int x3), (4, .int x4), (6, .int x6), (7, .int x7), (8, .int x8), (9, .int (x9 + (-1))), (10, .int x10)]) [2, 3, 4, 5, 6, 7, 8, 0, 9] rfl ?_
      exact cmnth_155 s0 D cB cI cJ cD am a1 a2 a3 F G tp w oc n x2 x3 x4 x6 x7 x8 (x9 + (-1)) x10 hW hFr h hL93 hQ
    · replace h := zif_pos q h
      clear q
      refine zV_blk (pc' := 154) (lo' := [(9, .int (x9 + (-1))), (11, .long v1), (0, .ref am), (2, .int x2), (3, .int x3), (4, .int x4), (6, .int x6), (7, .int x7), (8, .int x8), (10, .int x10)]) (st' := [.long v1]) [.lload 11] (by decide +kernel) rfl ?_
      obtain rfl := Option.some.inj h
      exact zV_lret rfl (by decide +kernel) (hQ _ rfl hm hW hFr)
  · replace h := zif_neg q h
    clear q
    refine zV_goto (tgt := 155) (off := 14) (by decide +kernel) (by decide) ?_
    refine zV_pick (lo2 := [(0, .ref am), (2, .int x2), (3, .int x3), (4, .int x4), (6, .int x6), (7, .int x7), (8, .int x8), (9, .int x9), (10, .int x10)]) [1, 2, 3, 4, 5, 6, 7, 8, 9] rfl ?_
    exact cmnth_155 s0 D cB cI cJ cD am a1 a2 a3 F G tp w oc n x2 x3 x4 x6 x7 x8 x9 x10 hW hFr h hL93 hQ
def mnth_93 (n : Nat) (F : Nat → Int32) (w : Nat → Int32) (x2 : Int32) (x3 : Int32) (x4 : Int32) (x6 : Int32) (x7 : Int32) (x8 : Int32) (s : Int32 × Int32) : Option ((Int32 × Int32) ⊕ (Int64 × (Nat → Int32))) := (if (x8 : Int32) ≤ (s.2 : Int32) then some (.inr ((-1000000000000000), F)) else (if (x6 : Int32) = (0 : Int32) then (mnth_123 n F w x2 x3 x4 x6 x7 x8 s.1 s.2 x7 (x2 : Int32).toInt64 x3 s.2) else (mnth_123 n F w x2 x3 x4 x6 x7 x8 s.1 s.2 x7 (x2 : Int32).toInt64 x3 ((x8 - 1) - s.2))))
set_option maxHeartbeats 4000000 in
set_option maxRecDepth 100000 in
theorem cmnth_93 (s0 : State) (D : va_G) (cB cI cJ cD : ClassId) (am a1 a2 a3 : Nat) (F : Nat → Int32) (G : Nat → Int64) (tp : Nat → Int32) (w : Nat → Int32) (oc : Nat → Int32) (n : Nat) (x2 : Int32) (x3 : Int32) (x4 : Int32) (x6 : Int32) (x7 : Int32) (x8 : Int32) (s : Int32 × Int32) (x : (Int32 × Int32) ⊕ (Int64 × (Nat → Int32))) {hi hm : zHp} {nx : Nat} {Q : Option Value → zHp → zHp → Nat → Prop} {hm0 : zHp} (hW : mW cB cI am a1 a2 a3 F G tp w oc hm) (hFr : mFr am a1 a2 a3 hm0 hm) (h : mnth_93 n F w x2 x3 x4 x6 x7 x8 s = some x) (hL93 : ∀ s : Int32 × Int32, x = (.inl s) → ∀ hm', mW cB cI am a1 a2 a3 F G tp w oc hm' → mFr am a1 a2 a3 hm0 hm' → zV s0 D (zty cB cI cJ cD) yX12_nth cX12_nth 13 (some .long) 5 124 0 0 93 [(0, .ref am), (2, .int x2), (3, .int x3), (4, .int x4), (6, .int x6), (7, .int x7), (8, .int x8), (9, .int s.1), (10, .int s.2)] [] hi hm' nx Q) (hQ : ∀ r : Int64 × (Nat → Int32), x = (.inr r) → ∀ hm', mW cB cI am a1 a2 a3 r.2 G tp w oc hm' → mFr am a1 a2 a3 hm0 hm' → Q (some (.long r.1)) hi hm' nx) : zV s0 D (zty cB cI cJ cD) yX12_nth cX12_nth 13 (some .long) 5 124 0 0 93 [(0, .ref am), (2, .int x2), (3, .int x3), (4, .int x4), (6, .int x6), (7, .int x7), (8, .int x8), (9, .int s.1), (10, .int s.2)] [] hi hm nx Q := by
  unfold mnth_93 at h
  refine zV_blk (pc' := 97) (lo' := [(0, .ref am), (2, .int x2), (3, .int x3), (4, .int x4), (6, .int x6), (7, .int x7), (8, .int x8), (9, .int s.1), (10, .int s.2)]) (st' := [.int x8, .int s.2]) [.iload 10, .iload 8] (by decide +kernel) rfl ?_
  refine zV_icmp_ge (tgt := 161) (off := 64) (by decide +kernel) (by decide) (fun q => ?_) (fun q => ?_)
  · replace h := zif_pos q h
    clear q
    refine zV_ldc2 (idx := 40) (v := (-1000000000000000)) (zT_mem 1728 (by decide +kernel) rfl) (by decide +kernel) ?_
    obtain rfl := Option.some.inj h
    exact zV_lret rfl (by decide +kernel) (hQ _ rfl hm hW hFr)
  · replace h := zif_neg q h
    clear q
    refine zV_blk (pc' := 108) (lo' := [(0, .ref am), (2, .int x2), (3, .int x3), (4, .int x4), (6, .int x6), (7, .int x7), (8, .int x8), (9, .int s.1), (10, .int s.2)]) (st' := [.int x6, .int x3, .long (x2 : Int32).toInt64, .int x7, .ref am]) [.aload_n 0, .iload 7, .iload_n 2, .i2l, .iload_n 3, .iload 6] (by decide +kernel) rfl ?_
    refine zV_if_eq (tgt := 121) (off := 13) (by decide +kernel) (by decide) (fun q => ?_) (fun q => ?_)
    · replace h := zif_pos q h
      clear q
      refine zV_blk (pc' := 123) (lo' := [(0, .ref am), (2, .int x2), (3, .int x3), (4, .int x4), (6, .int x6), (7, .int x7), (8, .int x8), (9, .int s.1), (10, .int s.2)]) (st' := [.int s.2, .int x3, .long (x2 : Int32).toInt64, .int x7, .ref am]) [.iload 10] (by decide +kernel) rfl ?_
      refine zV_pick (lo2 := [(0, .ref am), (2, .int x2), (3, .int x3), (4, .int x4), (6, .int x6), (7, .int x7), (8, .int x8), (9, .int s.1), (10, .int s.2)]) [0, 1, 2, 3, 4, 5, 6, 7, 8] rfl ?_
      exact cmnth_123 s0 D cB cI cJ cD am a1 a2 a3 F G tp w oc n x2 x3 x4 x6 x7 x8 s.1 s.2 x7 (x2 : Int32).toInt64 x3 s.2 hW hFr h hL93 hQ
    · replace h := zif_neg q h
      clear q
      refine zV_blk (pc' := 118) (lo' := [(0, .ref am), (2, .int x2), (3, .int x3), (4, .int x4), (6, .int x6), (7, .int x7), (8, .int x8), (9, .int s.1), (10, .int s.2)]) (st' := [.int ((x8 - 1) - s.2), .int x3, .long (x2 : Int32).toInt64, .int x7, .ref am]) [.iload 8, .iconst 1, .isub, .iload 10, .isub] (by decide +kernel) rfl ?_
      refine zV_goto (tgt := 123) (off := 5) (by decide +kernel) (by decide) ?_
      refine zV_pick (lo2 := [(0, .ref am), (2, .int x2), (3, .int x3), (4, .int x4), (6, .int x6), (7, .int x7), (8, .int x8), (9, .int s.1), (10, .int s.2)]) [0, 1, 2, 3, 4, 5, 6, 7, 8] rfl ?_
      exact cmnth_123 s0 D cB cI cJ cD am a1 a2 a3 F G tp w oc n x2 x3 x4 x6 x7 x8 s.1 s.2 x7 (x2 : Int32).toInt64 x3 ((x8 - 1) - s.2) hW hFr h hL93 hQ
theorem cmnth_93L (s0 : State) (D : va_G) (cB cI cJ cD : ClassId) (am a1 a2 a3 : Nat) (F : Nat → Int32) (G : Nat → Int64) (tp : Nat → Int32) (w : Nat → Int32) (oc : Nat → Int32) (n : Nat) (x2 : Int32) (x3 : Int32) (x4 : Int32) (x6 : Int32) (x7 : Int32) (x8 : Int32) : ∀ (k : Nat) (s : Int32 × Int32) {hi hm : zHp} {nx : Nat} {Q : Option Value → zHp → zHp → Nat → Prop} {hm0 : zHp} (_ : mW cB cI am a1 a2 a3 F G tp w oc hm) (_ : mFr am a1 a2 a3 hm0 hm) {x : Int64 × (Nat → Int32)} (_ : zloop (mnth_93 n F w x2 x3 x4 x6 x7 x8) k s = some x) (hQ : ∀ r : Int64 × (Nat → Int32), x = r → ∀ hm', mW cB cI am a1 a2 a3 r.2 G tp w oc hm' → mFr am a1 a2 a3 hm0 hm' → Q (some (.long r.1)) hi hm' nx), zV s0 D (zty cB cI cJ cD) yX12_nth cX12_nth 13 (some .long) 5 124 0 0 93 [(0, .ref am), (2, .int x2), (3, .int x3), (4, .int x4), (6, .int x6), (7, .int x7), (8, .int x8), (9, .int s.1), (10, .int s.2)] [] hi hm nx Q
  | 0, s, _, _, _, _, _, hW, hFr, _, h, _ => by cases h
  | k + 1, s, hi, hm, nx, Q, hm0, hW, hFr, x, h, hQ => by
    obtain ⟨z, hz, h1, h2⟩ := zloop_succ h
    exact cmnth_93 s0 D cB cI cJ cD am a1 a2 a3 F G tp w oc n x2 x3 x4 x6 x7 x8 s z hW hFr hz (fun s' hs hm' hW' hFr' => cmnth_93L s0 D cB cI cJ cD am a1 a2 a3 F G tp w oc n x2 x3 x4 x6 x7 x8 k s' hW' hFr' (h1 s' hs) hQ) (fun r hr hm' hW' hFr' => hQ r (h2 _ hr).symm hm' hW' hFr')
def mnth (n : Nat) (F : Nat → Int32) (w : Nat → Int32) (x1 : Int32) (x2 : Int32) (x3 : Int32) (x4 : Int32) (x5 : Int32) (x6 : Int32) : Option (Int64 × (Nat → Int32)) := (misThere w x1).bind (fun v1 => (if v1 = true then (misYear (x2 : Int32).toInt64).bind (fun v2 => (if v2 = true then (mbank x1).bind (fun v3 => (misMonth w v3 x3).bind (fun v4 => (if v4 = true then (mbank x1).bind (fun v5 => (misWeekday w v5 x4).bind (fun v6 => (if v6 = true then (misIn (x5 : Int32).toInt64 1 200).bind (fun v7 => (if v7 = true then (mbank x1).bind (fun v8 => (misLeap n w v8 (x2 : Int32).toInt64).bind (fun v9 => (mmonthDays w v8 x3 (zb v9)).bind (fun v10 => (zloop (mnth_93 n (upd F 0 0) w x2 x3 x4 x6 v8 v10) n (x5, 0))))) else some ((-1000000000000000), (upd F 0 0)))) else some ((-1000000000000000), (upd F 0 0))))) else some ((-1000000000000000), (upd F 0 0))))) else some ((-1000000000000000), (upd F 0 0)))) else some ((-1000000000000000), (upd F 0 0))))
theorem oX12_nth : zO yX12_nth cX12_nth 13 (some .long) 6 := ⟨zT_mem 1976 (by decide +kernel) rfl, zT_mem 94 (by decide +kernel) rfl, by decide +kernel, by decide +kernel, by decide +kernel⟩
set_option maxHeartbeats 4000000 in
set_option maxRecDepth 100000 in
theorem cmnth (s0 : State) (D : va_G) (cB cI cJ cD : ClassId) (am a1 a2 a3 : Nat) (F : Nat → Int32) (G : Nat → Int64) (tp w oc : Nat → Int32) (n : Nat) (x1 : Int32) (x2 : Int32) (x3 : Int32) (x4 : Int32) (x5 : Int32) (x6 : Int32) (x : Int64 × (Nat → Int32)) (h : mnth n F w x1 x2 x3 x4 x5 x6 = some x) : mC s0 D cB cI cJ cD am a1 a2 a3 yX12_nth cX12_nth 13 (some .long) 5 124 [.int x1, .int x2, .int x3, .int x4, .int x5, .int x6] F G tp w oc (some (.long x.1)) x.2 G tp w oc := by
  intro hi hm nx Q hW hQ0
  have hQ : ∀ r : Int64 × (Nat → Int32), x = r → ∀ hm', mW cB cI am a1 a2 a3 r.2 G tp w oc hm' → mFr am a1 a2 a3 hm hm' → Q (some (.long r.1)) hi hm' nx := fun r hr => by subst hr; exact hQ0
  have hFr : mFr am a1 a2 a3 hm hm := mFr.rf
  clear hQ0
  refine zM_of (by decide +kernel) (Nat.le_of_ble_eq_true rfl) ?_
  unfold mnth at h
  refine zV_eq (lo2 := [(0, .ref am), (1, .int x1), (2, .int x2), (3, .int x3), (4, .int x4), (5, .int x5), (6, .int x6)]) rfl rfl rfl rfl ?_
  refine zV_blk (pc' := 2) (lo' := [(0, .ref am), (1, .int x1), (2, .int x2), (3, .int x3), (4, .int x4), (5, .int x5), (6, .int x6)]) (st' := [.int 0, .ref am]) [.aload_n 0, .iconst 0] (by decide +kernel) rfl ?_
  refine m_put (idx := 25) (k := 0) (v := .int 0) (F' := (upd F 0 0)) (G' := G) hW m_in12 (by decide) (zT_mem 1440 (by decide +kernel) rfl) rfl rfl rfl rfl (by decide +kernel) (fun hm hW hFr2 => ?_)
  replace hFr := hFr.tr hFr2; clear hFr2
  refine zV_blk (pc' := 7) (lo' := [(0, .ref am), (1, .int x1), (2, .int x2), (3, .int x3), (4, .int x4), (5, .int x5), (6, .int x6)]) (st' := [.int x1, .ref am]) [.aload_n 0, .iload_n 1] (by decide +kernel) rfl ?_
  obtain ⟨v1, hv1, h⟩ := zbind h
  refine m_cR (idx := 273) (rest := []) hW (cmisThere s0 D cB cI cJ cD am a1 a2 a3 (upd F 0 0) G tp w oc x1 v1 hv1) oX12_isThere rfl (zT_mem 1686 (by decide +kernel) rfl) (zT_mem 1688 (by decide +kernel) rfl) (zT_mem 49 (by decide +kernel) rfl) rfl rfl (Nat.le_of_ble_eq_true rfl) ⟨by decide, by decide⟩ (by decide +kernel) ?_
  refine zV_eq (st2 := [.int (zb v1)]) rfl rfl rfl rfl ?_
  refine zV_bif_eq (tgt := 59) (off := 49) (by decide +kernel) (by decide) (fun q => ?_) (fun q => ?_)
  · replace h := zif_neg q h
    clear q
    refine zV_ldc2 (idx := 40) (v := (-1000000000000000)) (zT_mem 1728 (by decide +kernel) rfl) (by decide +kernel) ?_
    obtain rfl := Option.some.inj h
    exact zV_lret rfl (by decide +kernel) (hQ _ rfl hm hW hFr)
  · replace h := zif_pos q h
    clear q
    refine zV_blk (pc' := 15) (lo' := [(0, .ref am), (1, .int x1), (2, .int x2), (3, .int x3), (4, .int x4), (5, .int x5), (6, .int x6)]) (st' := [.long (x2 : Int32).toInt64]) [.iload_n 2, .i2l] (by decide +kernel) rfl ?_
    obtain ⟨v2, hv2, h⟩ := zbind h
    refine zV_sC (idx := 255) (rest := []) (cmisYear s0 D cB cI cJ cD (x2 : Int32).toInt64 v2 hv2) oX12_isYear (zT_mem 1817 (by decide +kernel) rfl) (zT_mem 1818 (by decide +kernel) rfl) rfl rfl (Nat.le_of_ble_eq_true rfl) ⟨by decide, by decide⟩ (by decide +kernel) ?_
    refine zV_eq (st2 := [.int (zb v2)]) rfl rfl rfl rfl ?_
    refine zV_bif_eq (tgt := 59) (off := 41) (by decide +kernel) (by decide) (fun q => ?_) (fun q => ?_)
    · replace h := zif_neg q h
      clear q
      refine zV_ldc2 (idx := 40) (v := (-1000000000000000)) (zT_mem 1728 (by decide +kernel) rfl) (by decide +kernel) ?_
      obtain rfl := Option.some.inj h
      exact zV_lret rfl (by decide +kernel) (hQ _ rfl hm hW hFr)
    · replace h := zif_pos q h
      clear q
      refine zV_blk (pc' := 23) (lo' := [(0, .ref am), (1, .int x1), (2, .int x2), (3, .int x3), (4, .int x4), (5, .int x5), (6, .int x6)]) (st' := [.int x1, .ref am]) [.aload_n 0, .iload_n 1] (by decide +kernel) rfl ?_
      obtain ⟨v3, hv3, h⟩ := zbind h
      refine zV_sC (idx := 118) (rest := [.ref am]) (cmbank s0 D cB cI cJ cD x1 v3 hv3) oX12_bank (zT_mem 1671 (by decide +kernel) rfl) (zT_mem 1672 (by decide +kernel) rfl) rfl rfl (Nat.le_of_ble_eq_true rfl) ⟨by decide, by decide⟩ (by decide +kernel) ?_
      refine zV_eq (st2 := [.int v3, .ref am]) rfl rfl rfl rfl ?_
      refine zV_blk (pc' := 27) (lo' := [(0, .ref am), (1, .int x1), (2, .int x2), (3, .int x3), (4, .int x4), (5, .int x5), (6, .int x6)]) (st' := [.int x3, .int v3, .ref am]) [.iload_n 3] (by decide +kernel) rfl ?_
      obtain ⟨v4, hv4, h⟩ := zbind h
      refine m_cR (idx := 258) (rest := []) hW (cmisMonth s0 D cB cI cJ cD am a1 a2 a3 (upd F 0 0) G tp w oc v3 x3 v4 hv4) oX12_isMonth rfl (zT_mem 1716 (by decide +kernel) rfl) (zT_mem 1718 (by decide +kernel) rfl) (zT_mem 53 (by decide +kernel) rfl) rfl rfl (Nat.le_of_ble_eq_true rfl) ⟨by decide, by decide⟩ (by decide +kernel) ?_
      refine zV_eq (st2 := [.int (zb v4)]) rfl rfl rfl rfl ?_
      refine zV_bif_eq (tgt := 59) (off := 29) (by decide +kernel) (by decide) (fun q => ?_) (fun q => ?_)
      · replace h := zif_neg q h
        clear q
        refine zV_ldc2 (idx := 40) (v := (-1000000000000000)) (zT_mem 1728 (by decide +kernel) rfl) (by decide +kernel) ?_
        obtain rfl := Option.some.inj h
        exact zV_lret rfl (by decide +kernel) (hQ _ rfl hm hW hFr)
      · replace h := zif_pos q h
        clear q
        refine zV_blk (pc' := 35) (lo' := [(0, .ref am), (1, .int x1), (2, .int x2), (3, .int x3), (4, .int x4), (5, .int x5), (6, .int x6)]) (st' := [.int x1, .ref am]) [.aload_n 0, .iload_n 1] (by decide +kernel) rfl ?_
        obtain ⟨v5, hv5, h⟩ := zbind h
        refine zV_sC (idx := 118) (rest := [.ref am]) (cmbank s0 D cB cI cJ cD x1 v5 hv5) oX12_bank (zT_mem 1671 (by decide +kernel) rfl) (zT_mem 1672 (by decide +kernel) rfl) rfl rfl (Nat.le_of_ble_eq_true rfl) ⟨by decide, by decide⟩ (by decide +kernel) ?_
        refine zV_eq (st2 := [.int v5, .ref am]) rfl rfl rfl rfl ?_
        refine zV_blk (pc' := 40) (lo' := [(0, .ref am), (1, .int x1), (2, .int x2), (3, .int x3), (4, .int x4), (5, .int x5), (6, .int x6)]) (st' := [.int x4, .int v5, .ref am]) [.iload 4] (by decide +kernel) rfl ?_
        obtain ⟨v6, hv6, h⟩ := zbind h
        refine m_cR (idx := 388) (rest := []) hW (cmisWeekday s0 D cB cI cJ cD am a1 a2 a3 (upd F 0 0) G tp w oc v5 x4 v6 hv6) oX12_isWeekday rfl (zT_mem 1965 (by decide +kernel) rfl) (zT_mem 1967 (by decide +kernel) rfl) (zT_mem 80 (by decide +kernel) rfl) rfl rfl (Nat.le_of_ble_eq_true rfl) ⟨by decide, by decide⟩ (by decide +kernel) ?_
        refine zV_eq (st2 := [.int (zb v6)]) rfl rfl rfl rfl ?_
        refine zV_bif_eq (tgt := 59) (off := 16) (by decide +kernel) (by decide) (fun q => ?_) (fun q => ?_)
        · replace h := zif_neg q h
          clear q
          refine zV_ldc2 (idx := 40) (v := (-1000000000000000)) (zT_mem 1728 (by decide +kernel) rfl) (by decide +kernel) ?_
          obtain rfl := Option.some.inj h
          exact zV_lret rfl (by decide +kernel) (hQ _ rfl hm hW hFr)
        · replace h := zif_pos q h
          clear q
          refine zV_blk (pc' := 50) (lo' := [(0, .ref am), (1, .int x1), (2, .int x2), (3, .int x3), (4, .int x4), (5, .int x5), (6, .int x6)]) (st' := [.long 1, .long (x5 : Int32).toInt64]) [.iload 5, .i2l, .lconst 1] (by decide +kernel) rfl ?_
          refine zV_ldc2 (idx := 395) (v := 200) (zT_mem 1977 (by decide +kernel) rfl) (by decide +kernel) ?_
          obtain ⟨v7, hv7, h⟩ := zbind h
          refine zV_sC (idx := 36) (rest := []) (cmisIn s0 D cB cI cJ cD (x5 : Int32).toInt64 1 200 v7 hv7) oX12_isIn (zT_mem 1531 (by decide +kernel) rfl) (zT_mem 1532 (by decide +kernel) rfl) rfl rfl (Nat.le_of_ble_eq_true rfl) ⟨by decide, by decide⟩ (by decide +kernel) ?_
          refine zV_eq (st2 := [.int (zb v7)]) rfl rfl rfl rfl ?_
          refine zV_bif_ne (tgt := 63) (off := 7) (by decide +kernel) (by decide) (fun q => ?_) (fun q => ?_)
          · replace h := zif_pos q h
            clear q
            refine zV_blk (pc' := 64) (lo' := [(0, .ref am), (1, .int x1), (2, .int x2), (3, .int x3), (4, .int x4), (5, .int x5), (6, .int x6)]) (st' := [.int x1]) [.iload_n 1] (by decide +kernel) rfl ?_
            obtain ⟨v8, hv8, h⟩ := zbind h
            refine zV_sC (idx := 118) (rest := []) (cmbank s0 D cB cI cJ cD x1 v8 hv8) oX12_bank (zT_mem 1671 (by decide +kernel) rfl) (zT_mem 1672 (by decide +kernel) rfl) rfl rfl (Nat.le_of_ble_eq_true rfl) ⟨by decide, by decide⟩ (by decide +kernel) ?_
            refine zV_eq (st2 := [.int v8]) rfl rfl rfl rfl ?_
            refine zV_blk (pc' := 78) (lo' := [(7, .int v8), (0, .ref am), (1, .int x1), (2, .int x2), (3, .int x3), (4, .int x4), (5, .int x5), (6, .int x6)]) (st' := [.long (x2 : Int32).toInt64, .int v8, .ref am, .int x3, .int v8, .ref am]) [.istore 7, .aload_n 0, .iload 7, .iload_n 3, .aload_n 0, .iload 7, .iload_n 2, .i2l] (by decide +kernel) rfl ?_
            obtain ⟨v9, hv9, h⟩ := zbind h
            refine m_cR (idx := 236) (rest := [.int x3, .int v8, .ref am]) hW (cmisLeap s0 D cB cI cJ cD am a1 a2 a3 (upd F 0 0) G tp w oc n v8 (x2 : Int32).toInt64 v9 hv9) oX12_isLeap rfl (zT_mem 1805 (by decide +kernel) rfl) (zT_mem 1807 (by decide +kernel) rfl) (zT_mem 64 (by decide +kernel) rfl) rfl rfl (Nat.le_of_ble_eq_true rfl) ⟨by decide, by decide⟩ (by decide +kernel) ?_
            refine zV_eq (st2 := [.int (zb v9), .int x3, .int v8, .ref am]) rfl rfl rfl rfl ?_
            obtain ⟨v10, hv10, h⟩ := zbind h
            refine m_cR (idx := 251) (rest := []) hW (cmmonthDays s0 D cB cI cJ cD am a1 a2 a3 (upd F 0 0) G tp w oc v8 x3 (zb v9) v10 hv10) oX12_monthDays rfl (zT_mem 1720 (by decide +kernel) rfl) (zT_mem 1722 (by decide +kernel) rfl) (zT_mem 54 (by decide +kernel) rfl) rfl rfl (Nat.le_of_ble_eq_true rfl) ⟨by decide, by decide⟩ (by decide +kernel) ?_
            refine zV_eq (st2 := [.int v10]) rfl rfl rfl rfl ?_
            refine zV_blk (pc' := 93) (lo' := [(10, .int 0), (9, .int x5), (8, .int v10), (7, .int v8), (0, .ref am), (1, .int x1), (2, .int x2), (3, .int x3), (4, .int x4), (5, .int x5), (6, .int x6)]) (st' := []) [.istore 8, .iload 5, .istore 9, .iconst 0, .istore 10] (by decide +kernel) rfl ?_
            refine zV_pick (lo2 := [(0, .ref am), (2, .int x2), (3, .int x3), (4, .int x4), (6, .int x6), (7, .int v8), (8, .int v10), (9, .int x5), (10, .int 0)]) [4, 6, 7, 8, 10, 3, 2, 1, 0] rfl ?_
            exact cmnth_93L s0 D cB cI cJ cD am a1 a2 a3 (upd F 0 0) G tp w oc n x2 x3 x4 x6 v8 v10 n (x5, 0) hW hFr h hQ
          · replace h := zif_neg q h
            clear q
            refine zV_ldc2 (idx := 40) (v := (-1000000000000000)) (zT_mem 1728 (by decide +kernel) rfl) (by decide +kernel) ?_
            obtain rfl := Option.some.inj h
            exact zV_lret rfl (by decide +kernel) (hQ _ rfl hm hW hFr)

