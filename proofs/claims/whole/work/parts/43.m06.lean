def mstatement_208 (n : Nat) (F : Nat → Int32) (tp : Nat → Int32) (w : Nat → Int32) : Option ((Nat → Int32) × (Nat → Int32)) := (misFine F).bind (fun v1 => (if v1 = true then some ((upd F 4 ((F 4) + 1)), w) else some (F, w)))
set_option maxHeartbeats 4000000 in
set_option maxRecDepth 100000 in
theorem cmstatement_208 (s0 : State) (D : va_G) (cB cI cJ cD : ClassId) (am a1 a2 a3 : Nat) (F : Nat → Int32) (G : Nat → Int64) (tp w oc : Nat → Int32) (n : Nat) {hi hm : zHp} {nx : Nat} {Q : Option Value → zHp → zHp → Nat → Prop} {hm0 : zHp} {x : (Nat → Int32) × (Nat → Int32)} (hW : mW cB cI am a1 a2 a3 F G tp w oc hm) (hFr : mFr am a1 a2 a3 hm0 hm) (h : mstatement_208 n F tp w = some x) (hQ : ∀ r : (Nat → Int32) × (Nat → Int32), x = r → ∀ hm', mW cB cI am a1 a2 a3 r.1 G tp r.2 oc hm' → mFr am a1 a2 a3 hm0 hm' → Q none hi hm' nx) : zV s0 D (zty cB cI cJ cD) yX12_statement cX12_statement 1 none 7 162 0 0 208 [(0, .ref am)] [] hi hm nx Q := by
  unfold mstatement_208 at h
  refine zV_blk (pc' := 209) (lo' := [(0, .ref am)]) (st' := [.ref am]) [.aload_n 0] (by decide +kernel) rfl ?_
  obtain ⟨v1, hv1, h⟩ := zbind h
  refine m_cR (idx := 86) (rest := []) hW (cmisFine s0 D cB cI cJ cD am a1 a2 a3 F G tp w oc  v1 hv1) oX12_isFine rfl (zT_mem 1547 (by decide +kernel) rfl) (zT_mem 1549 (by decide +kernel) rfl) (zT_mem 23 (by decide +kernel) rfl) rfl rfl (Nat.le_of_ble_eq_true rfl) ⟨by decide, by decide⟩ (by decide +kernel) ?_
  refine zV_eq (st2 := [.int (zb v1)]) rfl rfl rfl rfl ?_
  refine zV_bif_eq (tgt := 225) (off := 13) (by decide +kernel) (by decide) (fun q => ?_) (fun q => ?_)
  · replace h := zif_neg q h
    clear q
    obtain rfl := Option.some.inj h
    exact zV_vret rfl (by decide +kernel) (hQ _ rfl hm hW hFr)
  · replace h := zif_pos q h
    clear q
    refine zV_blk (pc' := 217) (lo' := [(0, .ref am)]) (st' := [.ref am, .ref am]) [.aload_n 0, .dup] (by decide +kernel) rfl ?_
    refine m_get (idx := 55) (k := 4) (v := .int (F 4)) hW m_in12 (by decide) (zT_mem 1444 (by decide +kernel) rfl) rfl (by decide +kernel) ?_
    refine zV_blk (pc' := 222) (lo' := [(0, .ref am)]) (st' := [.int ((F 4) + 1), .ref am]) [.iconst 1, .iadd] (by decide +kernel) rfl ?_
    refine m_put (idx := 55) (k := 4) (v := .int ((F 4) + 1)) (F' := (upd F 4 ((F 4) + 1))) (G' := G) hW m_in12 (by decide) (zT_mem 1444 (by decide +kernel) rfl) rfl rfl rfl rfl (by decide +kernel) (fun hm hW hFr2 => ?_)
    replace hFr := hFr.tr hFr2; clear hFr2
    obtain rfl := Option.some.inj h
    exact zV_vret rfl (by decide +kernel) (hQ _ rfl hm hW hFr)
def mstatement_204 (n : Nat) (F : Nat → Int32) (tp : Nat → Int32) (w : Nat → Int32) : Option ((Nat → Int32) × (Nat → Int32)) := (munlike n F tp).bind (fun v1 => (mstatement_208 n v1 tp w))
set_option maxHeartbeats 4000000 in
set_option maxRecDepth 100000 in
theorem cmstatement_204 (s0 : State) (D : va_G) (cB cI cJ cD : ClassId) (am a1 a2 a3 : Nat) (F : Nat → Int32) (G : Nat → Int64) (tp w oc : Nat → Int32) (n : Nat) {hi hm : zHp} {nx : Nat} {Q : Option Value → zHp → zHp → Nat → Prop} {hm0 : zHp} {x : (Nat → Int32) × (Nat → Int32)} (hW : mW cB cI am a1 a2 a3 F G tp w oc hm) (hFr : mFr am a1 a2 a3 hm0 hm) (h : mstatement_204 n F tp w = some x) (hQ : ∀ r : (Nat → Int32) × (Nat → Int32), x = r → ∀ hm', mW cB cI am a1 a2 a3 r.1 G tp r.2 oc hm' → mFr am a1 a2 a3 hm0 hm' → Q none hi hm' nx) : zV s0 D (zty cB cI cJ cD) yX12_statement cX12_statement 1 none 7 162 0 0 204 [(0, .ref am)] [] hi hm nx Q := by
  unfold mstatement_204 at h
  refine zV_blk (pc' := 205) (lo' := [(0, .ref am)]) (st' := [.ref am]) [.aload_n 0] (by decide +kernel) rfl ?_
  obtain ⟨v1, hv1, h⟩ := zbind h
  refine m_cC (idx := 107) (rest := []) hW (cmunlike s0 D cB cI cJ cD am a1 a2 a3 F G tp w oc n  v1 hv1) oX12_unlike rfl (zT_mem 1589 (by decide +kernel) rfl) (zT_mem 1591 (by decide +kernel) rfl) (zT_mem 32 (by decide +kernel) rfl) rfl rfl (Nat.le_of_ble_eq_true rfl) ⟨by decide, by decide⟩ (by decide +kernel) (fun hm hW hFr2 => ?_)
  replace hFr := hFr.tr hFr2; clear hFr2
  refine zV_eq (st2 := []) rfl rfl rfl rfl ?_
  refine zV_pick (lo2 := [(0, .ref am)]) [0] rfl ?_
  exact cmstatement_208 s0 D cB cI cJ cD am a1 a2 a3 v1 G tp w oc n  hW hFr h hQ
def mstatement_172 (n : Nat) (F : Nat → Int32) (tp : Nat → Int32) (w : Nat → Int32) : Option ((Nat → Int32) × (Nat → Int32)) := (misFine F).bind (fun v1 => (if v1 = true then (mnext n F tp).bind (fun v2 => (if ((v2.2 3) : Int32) ≤ (v2.1 : Int32) then (mstatement_204 n v2.2 tp w) else zck (zin ((v2.2 4)) 800) ((if ((tp ((v2.2 4) : Int32).toNatClampNeg) : Int32) = (59 : Int32) then (mstatement_208 n v2.2 tp w) else (mstatement_204 n v2.2 tp w))))) else (mstatement_208 n F tp w)))
set_option maxHeartbeats 4000000 in
set_option maxRecDepth 100000 in
theorem cmstatement_172 (s0 : State) (D : va_G) (cB cI cJ cD : ClassId) (am a1 a2 a3 : Nat) (F : Nat → Int32) (G : Nat → Int64) (tp w oc : Nat → Int32) (n : Nat) {hi hm : zHp} {nx : Nat} {Q : Option Value → zHp → zHp → Nat → Prop} {hm0 : zHp} {x : (Nat → Int32) × (Nat → Int32)} (hW : mW cB cI am a1 a2 a3 F G tp w oc hm) (hFr : mFr am a1 a2 a3 hm0 hm) (h : mstatement_172 n F tp w = some x) (hQ : ∀ r : (Nat → Int32) × (Nat → Int32), x = r → ∀ hm', mW cB cI am a1 a2 a3 r.1 G tp r.2 oc hm' → mFr am a1 a2 a3 hm0 hm' → Q none hi hm' nx) : zV s0 D (zty cB cI cJ cD) yX12_statement cX12_statement 1 none 7 162 0 0 172 [(0, .ref am)] [] hi hm nx Q := by
  unfold mstatement_172 at h
  refine zV_blk (pc' := 173) (lo' := [(0, .ref am)]) (st' := [.ref am]) [.aload_n 0] (by decide +kernel) rfl ?_
  obtain ⟨v1, hv1, h⟩ := zbind h
  refine m_cR (idx := 86) (rest := []) hW (cmisFine s0 D cB cI cJ cD am a1 a2 a3 F G tp w oc  v1 hv1) oX12_isFine rfl (zT_mem 1547 (by decide +kernel) rfl) (zT_mem 1549 (by decide +kernel) rfl) (zT_mem 23 (by decide +kernel) rfl) rfl rfl (Nat.le_of_ble_eq_true rfl) ⟨by decide, by decide⟩ (by decide +kernel) ?_
  refine zV_eq (st2 := [.int (zb v1)]) rfl rfl rfl rfl ?_
  refine zV_bif_eq (tgt := 208) (off := 32) (by decide +kernel) (by decide) (fun q => ?_) (fun q => ?_)
  · replace h := zif_neg q h
    clear q
    refine zV_pick (lo2 := [(0, .ref am)]) [0] rfl ?_
    exact cmstatement_208 s0 D cB cI cJ cD am a1 a2 a3 F G tp w oc n  hW hFr h hQ
  · replace h := zif_pos q h
    clear q
    refine zV_blk (pc' := 180) (lo' := [(0, .ref am)]) (st' := [.ref am]) [.aload_n 0] (by decide +kernel) rfl ?_
    obtain ⟨v2, hv2, h⟩ := zbind h
    refine m_cC (idx := 75) (rest := []) hW (cmnext s0 D cB cI cJ cD am a1 a2 a3 F G tp w oc n  v2 hv2) oX12_next rfl (zT_mem 1551 (by decide +kernel) rfl) (zT_mem 1553 (by decide +kernel) rfl) (zT_mem 24 (by decide +kernel) rfl) rfl rfl (Nat.le_of_ble_eq_true rfl) ⟨by decide, by decide⟩ (by decide +kernel) (fun hm hW hFr2 => ?_)
    replace hFr := hFr.tr hFr2; clear hFr2
    refine zV_eq (st2 := [.int v2.1]) rfl rfl rfl rfl ?_
    refine zV_blk (pc' := 184) (lo' := [(0, .ref am)]) (st' := [.ref am, .int v2.1]) [.aload_n 0] (by decide +kernel) rfl ?_
    refine m_get (idx := 52) (k := 3) (v := .int (v2.2 3)) hW m_in12 (by decide) (zT_mem 1443 (by decide +kernel) rfl) rfl (by decide +kernel) ?_
    refine zV_icmp_ge (tgt := 204) (off := 17) (by decide +kernel) (by decide) (fun q => ?_) (fun q => ?_)
    · replace h := zif_pos q h
      clear q
      refine zV_pick (lo2 := [(0, .ref am)]) [0] rfl ?_
      exact cmstatement_204 s0 D cB cI cJ cD am a1 a2 a3 v2.2 G tp w oc n  hW hFr h hQ
    · replace h := zif_neg q h
      clear q
      refine zV_blk (pc' := 191) (lo' := [(0, .ref am)]) (st' := [.ref am]) [.aload_n 0] (by decide +kernel) rfl ?_
      refine m_get (idx := 7) (k := 1) (v := .ref a1) hW m_in12 (by decide) (zT_mem 1441 (by decide +kernel) rfl) rfl (by decide +kernel) ?_
      refine zV_blk (pc' := 195) (lo' := [(0, .ref am)]) (st' := [.ref am, .ref a1]) [.aload_n 0] (by decide +kernel) rfl ?_
      refine m_get (idx := 55) (k := 4) (v := .int (v2.2 4)) hW m_in12 (by decide) (zT_mem 1444 (by decide +kernel) rfl) rfl (by decide +kernel) ?_
      obtain ⟨hz, h⟩ := zck_some h
      refine m_tld hW hz (by decide +kernel) ?_
      refine zV_blk (pc' := 201) (lo' := [(0, .ref am)]) (st' := [.int 59, .int (tp ((v2.2 4) : Int32).toNatClampNeg)]) [.bipush 59] (by decide +kernel) rfl ?_
      refine zV_icmp_eq (tgt := 208) (off := 7) (by decide +kernel) (by decide) (fun q => ?_) (fun q => ?_)
      · replace h := zif_pos q h
        clear q
        refine zV_pick (lo2 := [(0, .ref am)]) [0] rfl ?_
        exact cmstatement_208 s0 D cB cI cJ cD am a1 a2 a3 v2.2 G tp w oc n  hW hFr h hQ
      · replace h := zif_neg q h
        clear q
        refine zV_pick (lo2 := [(0, .ref am)]) [0] rfl ?_
        exact cmstatement_204 s0 D cB cI cJ cD am a1 a2 a3 v2.2 G tp w oc n  hW hFr h hQ
def mstatement (n : Nat) (F : Nat → Int32) (tp : Nat → Int32) (w : Nat → Int32) : Option ((Nat → Int32) × (Nat → Int32)) := (misWord n F tp 824370).bind (fun v1 => (if v1.1 = true then (mnumberTold n v1.2 tp w 0 824370 1 999).bind (fun v19 => (mstatement_172 n v19.1 tp v19.2)) else (misWord n v1.2 tp 6050369).bind (fun v2 => (if v2.1 = true then (mnumberTold n v2.2 tp w 1 6050369 2 30).bind (fun v18 => (mstatement_172 n v18.1 tp v18.2)) else (misWord n v2.2 tp 186542).bind (fun v3 => (if v3.1 = true then (mevenRead n v3.2 tp w).bind (fun v17 => (mstatement_172 n v17.1 tp v17.2)) else (misWord n v3.2 tp 5969497).bind (fun v4 => (if v4.1 = true then (meveryRead n v4.2 tp w).bind (fun v16 => (mstatement_172 n v16.1 tp v16.2)) else (misWord n v4.2 tp 18935).bind (fun v5 => (if v5.1 = true then (mrowRead n v5.2 tp w).bind (fun v15 => (mstatement_172 n v15.1 tp v15.2)) else (misWord n v5.2 tp 452415763).bind (fun v6 => (if v6.1 = true then (mmonthsRead n v6.2 tp w).bind (fun v14 => (mstatement_172 n v14.1 tp v14.2)) else (misWord n v6.2 tp 758955).bind (fun v7 => (if v7.1 = true then (mweekRead n v7.2 tp w).bind (fun v13 => (mstatement_172 n v13.1 tp v13.2)) else (misWord n v7.2 tp 674469).bind (fun v8 => (if v8.1 = true then (mtrueRead n v8.2 tp w).bind (fun v12 => (mstatement_172 n v12.1 tp v12.2)) else (misWord n v8.2 tp 72590803).bind (fun v9 => (if v9.1 = true then (mbeginsRead n v9.2 tp w).bind (fun v11 => (mstatement_172 n v11.1 tp v11.2)) else (munlike n v9.2 tp).bind (fun v10 => (mstatement_172 n v10 tp w))))))))))))))))))))
theorem oX12_statement : zO yX12_statement cX12_statement 1 none 0 := ⟨zT_mem 1558 (by decide +kernel) rfl, zT_mem 94 (by decide +kernel) rfl, by decide +kernel, by decide +kernel, by decide +kernel⟩
set_option maxHeartbeats 4000000 in
set_option maxRecDepth 100000 in
theorem cmstatement (s0 : State) (D : va_G) (cB cI cJ cD : ClassId) (am a1 a2 a3 : Nat) (F : Nat → Int32) (G : Nat → Int64) (tp w oc : Nat → Int32) (n : Nat) (x : (Nat → Int32) × (Nat → Int32)) (h : mstatement n F tp w = some x) : mC s0 D cB cI cJ cD am a1 a2 a3 yX12_statement cX12_statement 1 none 7 162 [] F G tp w oc none x.1 G tp x.2 oc := by
  intro hi hm nx Q hW hQ0
  have hQ : ∀ r : (Nat → Int32) × (Nat → Int32), x = r → ∀ hm', mW cB cI am a1 a2 a3 r.1 G tp r.2 oc hm' → mFr am a1 a2 a3 hm hm' → Q none hi hm' nx := fun r hr => by subst hr; exact hQ0
  have hFr : mFr am a1 a2 a3 hm hm := mFr.rf
  clear hQ0
  refine zM_of (by decide +kernel) (Nat.le_of_ble_eq_true rfl) ?_
  unfold mstatement at h
  refine zV_eq (lo2 := [(0, .ref am)]) rfl rfl rfl rfl ?_
  refine zV_blk (pc' := 1) (lo' := [(0, .ref am)]) (st' := [.ref am]) [.aload_n 0] (by decide +kernel) rfl ?_
  refine zV_ldc2 (idx := 176) (v := 824370) (zT_mem 1559 (by decide +kernel) rfl) (by decide +kernel) ?_
  obtain ⟨v1, hv1, h⟩ := zbind h
  refine m_cC (idx := 100) (rest := []) hW (cmisWord s0 D cB cI cJ cD am a1 a2 a3 F G tp w oc n 824370 v1 hv1) oX12_isWord rfl (zT_mem 1560 (by decide +kernel) rfl) (zT_mem 1562 (by decide +kernel) rfl) (zT_mem 26 (by decide +kernel) rfl) rfl rfl (Nat.le_of_ble_eq_true rfl) ⟨by decide, by decide⟩ (by decide +kernel) (fun hm hW hFr2 => ?_)
  replace hFr := hFr.tr hFr2; clear hFr2
  refine zV_eq (st2 := [.int (zb v1.1)]) rfl rfl rfl rfl ?_
  refine zV_bif_eq (tgt := 25) (off := 18) (by decide +kernel) (by decide) (fun q => ?_) (fun q => ?_)
  · replace h := zif_neg q h
    clear q
    refine zV_blk (pc' := 26) (lo' := [(0, .ref am)]) (st' := [.ref am]) [.aload_n 0] (by decide +kernel) rfl ?_
    refine zV_ldc2 (idx := 182) (v := 6050369) (zT_mem 1607 (by decide +kernel) rfl) (by decide +kernel) ?_
    obtain ⟨v2, hv2, h⟩ := zbind h
    refine m_cC (idx := 100) (rest := []) hW (cmisWord s0 D cB cI cJ cD am a1 a2 a3 v1.2 G tp w oc n 6050369 v2 hv2) oX12_isWord rfl (zT_mem 1560 (by decide +kernel) rfl) (zT_mem 1562 (by decide +kernel) rfl) (zT_mem 26 (by decide +kernel) rfl) rfl rfl (Nat.le_of_ble_eq_true rfl) ⟨by decide, by decide⟩ (by decide +kernel) (fun hm hW hFr2 => ?_)
    replace hFr := hFr.tr hFr2; clear hFr2
    refine zV_eq (st2 := [.int (zb v2.1)]) rfl rfl rfl rfl ?_
    refine zV_bif_eq (tgt := 49) (off := 17) (by decide +kernel) (by decide) (fun q => ?_) (fun q => ?_)
    · replace h := zif_neg q h
      clear q
      refine zV_blk (pc' := 50) (lo' := [(0, .ref am)]) (st' := [.ref am]) [.aload_n 0] (by decide +kernel) rfl ?_
      refine zV_ldc2 (idx := 138) (v := 186542) (zT_mem 1608 (by decide +kernel) rfl) (by decide +kernel) ?_
      obtain ⟨v3, hv3, h⟩ := zbind h
      refine m_cC (idx := 100) (rest := []) hW (cmisWord s0 D cB cI cJ cD am a1 a2 a3 v2.2 G tp w oc n 186542 v3 hv3) oX12_isWord rfl (zT_mem 1560 (by decide +kernel) rfl) (zT_mem 1562 (by decide +kernel) rfl) (zT_mem 26 (by decide +kernel) rfl) rfl rfl (Nat.le_of_ble_eq_true rfl) ⟨by decide, by decide⟩ (by decide +kernel) (fun hm hW hFr2 => ?_)
      replace hFr := hFr.tr hFr2; clear hFr2
      refine zV_eq (st2 := [.int (zb v3.1)]) rfl rfl rfl rfl ?_
      refine zV_bif_eq (tgt := 66) (off := 10) (by decide +kernel) (by decide) (fun q => ?_) (fun q => ?_)
      · replace h := zif_neg q h
        clear q
        refine zV_blk (pc' := 67) (lo' := [(0, .ref am)]) (st' := [.ref am]) [.aload_n 0] (by decide +kernel) rfl ?_
        refine zV_ldc2 (idx := 150) (v := 5969497) (zT_mem 1623 (by decide +kernel) rfl) (by decide +kernel) ?_
        obtain ⟨v4, hv4, h⟩ := zbind h
        refine m_cC (idx := 100) (rest := []) hW (cmisWord s0 D cB cI cJ cD am a1 a2 a3 v3.2 G tp w oc n 5969497 v4 hv4) oX12_isWord rfl (zT_mem 1560 (by decide +kernel) rfl) (zT_mem 1562 (by decide +kernel) rfl) (zT_mem 26 (by decide +kernel) rfl) rfl rfl (Nat.le_of_ble_eq_true rfl) ⟨by decide, by decide⟩ (by decide +kernel) (fun hm hW hFr2 => ?_)
        replace hFr := hFr.tr hFr2; clear hFr2
        refine zV_eq (st2 := [.int (zb v4.1)]) rfl rfl rfl rfl ?_
        refine zV_bif_eq (tgt := 83) (off := 10) (by decide +kernel) (by decide) (fun q => ?_) (fun q => ?_)
        · replace h := zif_neg q h
          clear q
          refine zV_blk (pc' := 84) (lo' := [(0, .ref am)]) (st' := [.ref am]) [.aload_n 0] (by decide +kernel) rfl ?_
          refine zV_ldc2 (idx := 156) (v := 18935) (zT_mem 1630 (by decide +kernel) rfl) (by decide +kernel) ?_
          obtain ⟨v5, hv5, h⟩ := zbind h
          refine m_cC (idx := 100) (rest := []) hW (cmisWord s0 D cB cI cJ cD am a1 a2 a3 v4.2 G tp w oc n 18935 v5 hv5) oX12_isWord rfl (zT_mem 1560 (by decide +kernel) rfl) (zT_mem 1562 (by decide +kernel) rfl) (zT_mem 26 (by decide +kernel) rfl) rfl rfl (Nat.le_of_ble_eq_true rfl) ⟨by decide, by decide⟩ (by decide +kernel) (fun hm hW hFr2 => ?_)
          replace hFr := hFr.tr hFr2; clear hFr2
          refine zV_eq (st2 := [.int (zb v5.1)]) rfl rfl rfl rfl ?_
          refine zV_bif_eq (tgt := 100) (off := 10) (by decide +kernel) (by decide) (fun q => ?_) (fun q => ?_)
          · replace h := zif_neg q h
            clear q
            refine zV_blk (pc' := 101) (lo' := [(0, .ref am)]) (st' := [.ref am]) [.aload_n 0] (by decide +kernel) rfl ?_
            refine zV_ldc2 (idx := 161) (v := 452415763) (zT_mem 1639 (by decide +kernel) rfl) (by decide +kernel) ?_
            obtain ⟨v6, hv6, h⟩ := zbind h
            refine m_cC (idx := 100) (rest := []) hW (cmisWord s0 D cB cI cJ cD am a1 a2 a3 v5.2 G tp w oc n 452415763 v6 hv6) oX12_isWord rfl (zT_mem 1560 (by decide +kernel) rfl) (zT_mem 1562 (by decide +kernel) rfl) (zT_mem 26 (by decide +kernel) rfl) rfl rfl (Nat.le_of_ble_eq_true rfl) ⟨by decide, by decide⟩ (by decide +kernel) (fun hm hW hFr2 => ?_)
            replace hFr := hFr.tr hFr2; clear hFr2
            refine zV_eq (st2 := [.int (zb v6.1)]) rfl rfl rfl rfl ?_
            refine zV_bif_eq (tgt := 117) (off := 10) (by decide +kernel) (by decide) (fun q => ?_) (fun q => ?_)
            · replace h := zif_neg q h
              clear q
              refine zV_blk (pc' := 118) (lo' := [(0, .ref am)]) (st' := [.ref am]) [.aload_n 0] (by decide +kernel) rfl ?_
              refine zV_ldc2 (idx := 165) (v := 758955) (zT_mem 1645 (by decide +kernel) rfl) (by decide +kernel) ?_
              obtain ⟨v7, hv7, h⟩ := zbind h
              refine m_cC (idx := 100) (rest := []) hW (cmisWord s0 D cB cI cJ cD am a1 a2 a3 v6.2 G tp w oc n 758955 v7 hv7) oX12_isWord rfl (zT_mem 1560 (by decide +kernel) rfl) (zT_mem 1562 (by decide +kernel) rfl) (zT_mem 26 (by decide +kernel) rfl) rfl rfl (Nat.le_of_ble_eq_true rfl) ⟨by decide, by decide⟩ (by decide +kernel) (fun hm hW hFr2 => ?_)
              replace hFr := hFr.tr hFr2; clear hFr2
              refine zV_eq (st2 := [.int (zb v7.1)]) rfl rfl rfl rfl ?_
              refine zV_bif_eq (tgt := 134) (off := 10) (by decide +kernel) (by decide) (fun q => ?_) (fun q => ?_)
              · replace h := zif_neg q h
                clear q
                refine zV_blk (pc' := 135) (lo' := [(0, .ref am)]) (st' := [.ref am]) [.aload_n 0] (by decide +kernel) rfl ?_
                refine zV_ldc2 (idx := 169) (v := 674469) (zT_mem 1651 (by decide +kernel) rfl) (by decide +kernel) ?_
                obtain ⟨v8, hv8, h⟩ := zbind h
                refine m_cC (idx := 100) (rest := []) hW (cmisWord s0 D cB cI cJ cD am a1 a2 a3 v7.2 G tp w oc n 674469 v8 hv8) oX12_isWord rfl (zT_mem 1560 (by decide +kernel) rfl) (zT_mem 1562 (by decide +kernel) rfl) (zT_mem 26 (by decide +kernel) rfl) rfl rfl (Nat.le_of_ble_eq_true rfl) ⟨by decide, by decide⟩ (by decide +kernel) (fun hm hW hFr2 => ?_)
                replace hFr := hFr.tr hFr2; clear hFr2
                refine zV_eq (st2 := [.int (zb v8.1)]) rfl rfl rfl rfl ?_
                refine zV_bif_eq (tgt := 151) (off := 10) (by decide +kernel) (by decide) (fun q => ?_) (fun q => ?_)
                · replace h := zif_neg q h
                  clear q
                  refine zV_blk (pc' := 152) (lo' := [(0, .ref am)]) (st' := [.ref am]) [.aload_n 0] (by decide +kernel) rfl ?_
                  refine zV_ldc2 (idx := 174) (v := 72590803) (zT_mem 1658 (by decide +kernel) rfl) (by decide +kernel) ?_
                  obtain ⟨v9, hv9, h⟩ := zbind h
                  refine m_cC (idx := 100) (rest := []) hW (cmisWord s0 D cB cI cJ cD am a1 a2 a3 v8.2 G tp w oc n 72590803 v9 hv9) oX12_isWord rfl (zT_mem 1560 (by decide +kernel) rfl) (zT_mem 1562 (by decide +kernel) rfl) (zT_mem 26 (by decide +kernel) rfl) rfl rfl (Nat.le_of_ble_eq_true rfl) ⟨by decide, by decide⟩ (by decide +kernel) (fun hm hW hFr2 => ?_)
                  replace hFr := hFr.tr hFr2; clear hFr2
                  refine zV_eq (st2 := [.int (zb v9.1)]) rfl rfl rfl rfl ?_
                  refine zV_bif_eq (tgt := 168) (off := 10) (by decide +kernel) (by decide) (fun q => ?_) (fun q => ?_)
                  · replace h := zif_neg q h
                    clear q
                    refine zV_blk (pc' := 169) (lo' := [(0, .ref am)]) (st' := [.ref am]) [.aload_n 0] (by decide +kernel) rfl ?_
                    obtain ⟨v10, hv10, h⟩ := zbind h
                    refine m_cC (idx := 107) (rest := []) hW (cmunlike s0 D cB cI cJ cD am a1 a2 a3 v9.2 G tp w oc n  v10 hv10) oX12_unlike rfl (zT_mem 1589 (by decide +kernel) rfl) (zT_mem 1591 (by decide +kernel) rfl) (zT_mem 32 (by decide +kernel) rfl) rfl rfl (Nat.le_of_ble_eq_true rfl) ⟨by decide, by decide⟩ (by decide +kernel) (fun hm hW hFr2 => ?_)
                    replace hFr := hFr.tr hFr2; clear hFr2
                    refine zV_eq (st2 := []) rfl rfl rfl rfl ?_
                    refine zV_pick (lo2 := [(0, .ref am)]) [0] rfl ?_
                    exact cmstatement_172 s0 D cB cI cJ cD am a1 a2 a3 v10 G tp w oc n  hW hFr h hQ
                  · replace h := zif_pos q h
                    clear q
                    refine zV_blk (pc' := 162) (lo' := [(0, .ref am)]) (st' := [.ref am]) [.aload_n 0] (by decide +kernel) rfl ?_
                    obtain ⟨v11, hv11, h⟩ := zbind h
                    refine m_cC (idx := 202) (rest := []) hW (cmbeginsRead s0 D cB cI cJ cD am a1 a2 a3 v9.2 G tp w oc n  v11 hv11) oX12_beginsRead rfl (zT_mem 1659 (by decide +kernel) rfl) (zT_mem 1661 (by decide +kernel) rfl) (zT_mem 45 (by decide +kernel) rfl) rfl rfl (Nat.le_of_ble_eq_true rfl) ⟨by decide, by decide⟩ (by decide +kernel) (fun hm hW hFr2 => ?_)
                    replace hFr := hFr.tr hFr2; clear hFr2
                    refine zV_eq (st2 := []) rfl rfl rfl rfl ?_
                    refine zV_goto (tgt := 172) (off := 7) (by decide +kernel) (by decide) ?_
                    refine zV_pick (lo2 := [(0, .ref am)]) [0] rfl ?_
                    exact cmstatement_172 s0 D cB cI cJ cD am a1 a2 a3 v11.1 G tp v11.2 oc n  hW hFr h hQ
                · replace h := zif_pos q h
                  clear q
                  refine zV_blk (pc' := 145) (lo' := [(0, .ref am)]) (st' := [.ref am]) [.aload_n 0] (by decide +kernel) rfl ?_
                  obtain ⟨v12, hv12, h⟩ := zbind h
                  refine m_cC (idx := 199) (rest := []) hW (cmtrueRead s0 D cB cI cJ cD am a1 a2 a3 v8.2 G tp w oc n  v12 hv12) oX12_trueRead rfl (zT_mem 1652 (by decide +kernel) rfl) (zT_mem 1654 (by decide +kernel) rfl) (zT_mem 44 (by decide +kernel) rfl) rfl rfl (Nat.le_of_ble_eq_true rfl) ⟨by decide, by decide⟩ (by decide +kernel) (fun hm hW hFr2 => ?_)
                  replace hFr := hFr.tr hFr2; clear hFr2
                  refine zV_eq (st2 := []) rfl rfl rfl rfl ?_
                  refine zV_goto (tgt := 172) (off := 24) (by decide +kernel) (by decide) ?_
                  refine zV_pick (lo2 := [(0, .ref am)]) [0] rfl ?_
                  exact cmstatement_172 s0 D cB cI cJ cD am a1 a2 a3 v12.1 G tp v12.2 oc n  hW hFr h hQ
              · replace h := zif_pos q h
                clear q
                refine zV_blk (pc' := 128) (lo' := [(0, .ref am)]) (st' := [.ref am]) [.aload_n 0] (by decide +kernel) rfl ?_
                obtain ⟨v13, hv13, h⟩ := zbind h
                refine m_cC (idx := 196) (rest := []) hW (cmweekRead s0 D cB cI cJ cD am a1 a2 a3 v7.2 G tp w oc n  v13 hv13) oX12_weekRead rfl (zT_mem 1646 (by decide +kernel) rfl) (zT_mem 1648 (by decide +kernel) rfl) (zT_mem 43 (by decide +kernel) rfl) rfl rfl (Nat.le_of_ble_eq_true rfl) ⟨by decide, by decide⟩ (by decide +kernel) (fun hm hW hFr2 => ?_)
                replace hFr := hFr.tr hFr2; clear hFr2
                refine zV_eq (st2 := []) rfl rfl rfl rfl ?_
                refine zV_goto (tgt := 172) (off := 41) (by decide +kernel) (by decide) ?_
                refine zV_pick (lo2 := [(0, .ref am)]) [0] rfl ?_
                exact cmstatement_172 s0 D cB cI cJ cD am a1 a2 a3 v13.1 G tp v13.2 oc n  hW hFr h hQ
            · replace h := zif_pos q h
              clear q
              refine zV_blk (pc' := 111) (lo' := [(0, .ref am)]) (st' := [.ref am]) [.aload_n 0] (by decide +kernel) rfl ?_
              obtain ⟨v14, hv14, h⟩ := zbind h
              refine m_cC (idx := 193) (rest := []) hW (cmmonthsRead s0 D cB cI cJ cD am a1 a2 a3 v6.2 G tp w oc n  v14 hv14) oX12_monthsRead rfl (zT_mem 1640 (by decide +kernel) rfl) (zT_mem 1642 (by decide +kernel) rfl) (zT_mem 42 (by decide +kernel) rfl) rfl rfl (Nat.le_of_ble_eq_true rfl) ⟨by decide, by decide⟩ (by decide +kernel) (fun hm hW hFr2 => ?_)
              replace hFr := hFr.tr hFr2; clear hFr2
              refine zV_eq (st2 := []) rfl rfl rfl rfl ?_
              refine zV_goto (tgt := 172) (off := 58) (by decide +kernel) (by decide) ?_
              refine zV_pick (lo2 := [(0, .ref am)]) [0] rfl ?_
              exact cmstatement_172 s0 D cB cI cJ cD am a1 a2 a3 v14.1 G tp v14.2 oc n  hW hFr h hQ
          · replace h := zif_pos q h
            clear q
            refine zV_blk (pc' := 94) (lo' := [(0, .ref am)]) (st' := [.ref am]) [.aload_n 0] (by decide +kernel) rfl ?_
            obtain ⟨v15, hv15, h⟩ := zbind h
            refine m_cC (idx := 190) (rest := []) hW (cmrowRead s0 D cB cI cJ cD am a1 a2 a3 v5.2 G tp w oc n  v15 hv15) oX12_rowRead rfl (zT_mem 1631 (by decide +kernel) rfl) (zT_mem 1633 (by decide +kernel) rfl) (zT_mem 40 (by decide +kernel) rfl) rfl rfl (Nat.le_of_ble_eq_true rfl) ⟨by decide, by decide⟩ (by decide +kernel) (fun hm hW hFr2 => ?_)
            replace hFr := hFr.tr hFr2; clear hFr2
            refine zV_eq (st2 := []) rfl rfl rfl rfl ?_
            refine zV_goto (tgt := 172) (off := 75) (by decide +kernel) (by decide) ?_
            refine zV_pick (lo2 := [(0, .ref am)]) [0] rfl ?_
            exact cmstatement_172 s0 D cB cI cJ cD am a1 a2 a3 v15.1 G tp v15.2 oc n  hW hFr h hQ
        · replace h := zif_pos q h
          clear q
          refine zV_blk (pc' := 77) (lo' := [(0, .ref am)]) (st' := [.ref am]) [.aload_n 0] (by decide +kernel) rfl ?_
          obtain ⟨v16, hv16, h⟩ := zbind h
          refine m_cC (idx := 187) (rest := []) hW (cmeveryRead s0 D cB cI cJ cD am a1 a2 a3 v4.2 G tp w oc n  v16 hv16) oX12_everyRead rfl (zT_mem 1624 (by decide +kernel) rfl) (zT_mem 1626 (by decide +kernel) rfl) (zT_mem 39 (by decide +kernel) rfl) rfl rfl (Nat.le_of_ble_eq_true rfl) ⟨by decide, by decide⟩ (by decide +kernel) (fun hm hW hFr2 => ?_)
          replace hFr := hFr.tr hFr2; clear hFr2
          refine zV_eq (st2 := []) rfl rfl rfl rfl ?_
          refine zV_goto (tgt := 172) (off := 92) (by decide +kernel) (by decide) ?_
          refine zV_pick (lo2 := [(0, .ref am)]) [0] rfl ?_
          exact cmstatement_172 s0 D cB cI cJ cD am a1 a2 a3 v16.1 G tp v16.2 oc n  hW hFr h hQ
      · replace h := zif_pos q h
        clear q
        refine zV_blk (pc' := 60) (lo' := [(0, .ref am)]) (st' := [.ref am]) [.aload_n 0] (by decide +kernel) rfl ?_
        obtain ⟨v17, hv17, h⟩ := zbind h
        refine m_cC (idx := 184) (rest := []) hW (cmevenRead s0 D cB cI cJ cD am a1 a2 a3 v3.2 G tp w oc n  v17 hv17) oX12_evenRead rfl (zT_mem 1609 (by decide +kernel) rfl) (zT_mem 1611 (by decide +kernel) rfl) (zT_mem 36 (by decide +kernel) rfl) rfl rfl (Nat.le_of_ble_eq_true rfl) ⟨by decide, by decide⟩ (by decide +kernel) (fun hm hW hFr2 => ?_)
        replace hFr := hFr.tr hFr2; clear hFr2
        refine zV_eq (st2 := []) rfl rfl rfl rfl ?_
        refine zV_goto (tgt := 172) (off := 109) (by decide +kernel) (by decide) ?_
        refine zV_pick (lo2 := [(0, .ref am)]) [0] rfl ?_
        exact cmstatement_172 s0 D cB cI cJ cD am a1 a2 a3 v17.1 G tp v17.2 oc n  hW hFr h hQ
    · replace h := zif_pos q h
      clear q
      refine zV_blk (pc' := 37) (lo' := [(0, .ref am)]) (st' := [.int 1, .ref am]) [.aload_n 0, .iconst 1] (by decide +kernel) rfl ?_
      refine zV_ldc2 (idx := 182) (v := 6050369) (zT_mem 1607 (by decide +kernel) rfl) (by decide +kernel) ?_
      refine zV_blk (pc' := 43) (lo' := [(0, .ref am)]) (st' := [.int 30, .int 2, .long 6050369, .int 1, .ref am]) [.iconst 2, .bipush 30] (by decide +kernel) rfl ?_
      obtain ⟨v18, hv18, h⟩ := zbind h
      refine m_cC (idx := 178) (rest := []) hW (cmnumberTold s0 D cB cI cJ cD am a1 a2 a3 v2.2 G tp w oc n 1 6050369 2 30 v18 hv18) oX12_numberTold rfl (zT_mem 1573 (by decide +kernel) rfl) (zT_mem 1575 (by decide +kernel) rfl) (zT_mem 28 (by decide +kernel) rfl) rfl rfl (Nat.le_of_ble_eq_true rfl) ⟨by decide, by decide⟩ (by decide +kernel) (fun hm hW hFr2 => ?_)
      replace hFr := hFr.tr hFr2; clear hFr2
      refine zV_eq (st2 := []) rfl rfl rfl rfl ?_
      refine zV_goto (tgt := 172) (off := 126) (by decide +kernel) (by decide) ?_
      refine zV_pick (lo2 := [(0, .ref am)]) [0] rfl ?_
      exact cmstatement_172 s0 D cB cI cJ cD am a1 a2 a3 v18.1 G tp v18.2 oc n  hW hFr h hQ
  · replace h := zif_pos q h
    clear q
    refine zV_blk (pc' := 12) (lo' := [(0, .ref am)]) (st' := [.int 0, .ref am]) [.aload_n 0, .iconst 0] (by decide +kernel) rfl ?_
    refine zV_ldc2 (idx := 176) (v := 824370) (zT_mem 1559 (by decide +kernel) rfl) (by decide +kernel) ?_
    refine zV_blk (pc' := 19) (lo' := [(0, .ref am)]) (st' := [.int 999, .int 1, .long 824370, .int 0, .ref am]) [.iconst 1, .sipush 999] (by decide +kernel) rfl ?_
    obtain ⟨v19, hv19, h⟩ := zbind h
    refine m_cC (idx := 178) (rest := []) hW (cmnumberTold s0 D cB cI cJ cD am a1 a2 a3 v1.2 G tp w oc n 0 824370 1 999 v19 hv19) oX12_numberTold rfl (zT_mem 1573 (by decide +kernel) rfl) (zT_mem 1575 (by decide +kernel) rfl) (zT_mem 28 (by decide +kernel) rfl) rfl rfl (Nat.le_of_ble_eq_true rfl) ⟨by decide, by decide⟩ (by decide +kernel) (fun hm hW hFr2 => ?_)
    replace hFr := hFr.tr hFr2; clear hFr2
    refine zV_eq (st2 := []) rfl rfl rfl rfl ?_
    refine zV_goto (tgt := 172) (off := 150) (by decide +kernel) (by decide) ?_
    refine zV_pick (lo2 := [(0, .ref am)]) [0] rfl ?_
    exact cmstatement_172 s0 D cB cI cJ cD am a1 a2 a3 v19.1 G tp v19.2 oc n  hW hFr h hQ

def mplainly_2 (n : Nat) (F : Nat → Int32) (s : Int32 × (Nat → Int32)) : Option ((Int32 × (Nat → Int32)) ⊕ ((Nat → Int32) × (Nat → Int32))) := (if (442 : Int32) ≤ (s.1 : Int32) then zck (zin (2652) 35802) (zck (zin (2653) 35802) (zck (zin (2654) 35802) (zck (zin (2658) 35802) (zck (zin (2660) 35802) (zck (zin (2664) 35802) (zck (zin (2666) 35802) (zck (zin (2668) 35802) (some (.inr ((upd F 13 0), (upd (upd (upd (upd (upd (upd (upd (upd s.2 (2652 : Int32).toNatClampNeg 1) (2653 : Int32).toNatClampNeg 365) (2654 : Int32).toNatClampNeg 1) (2658 : Int32).toNatClampNeg 7) (2660 : Int32).toNatClampNeg 1) (2664 : Int32).toNatClampNeg 365) (2666 : Int32).toNatClampNeg 1) (2668 : Int32).toNatClampNeg 1))))))))))) else zck (zin ((2652 + s.1)) 35802) (some (.inl ((s.1 + 1), (upd s.2 ((2652 + s.1) : Int32).toNatClampNeg 0)))))
set_option maxHeartbeats 4000000 in
set_option maxRecDepth 100000 in
theorem cmplainly_2 (s0 : State) (D : va_G) (cB cI cJ cD : ClassId) (am a1 a2 a3 : Nat) (F : Nat → Int32) (G : Nat → Int64) (tp : Nat → Int32) (oc : Nat → Int32) (n : Nat) (s : Int32 × (Nat → Int32)) (x : (Int32 × (Nat → Int32)) ⊕ ((Nat → Int32) × (Nat → Int32))) {hi hm : zHp} {nx : Nat} {Q : Option Value → zHp → zHp → Nat → Prop} {hm0 : zHp} (hW : mW cB cI am a1 a2 a3 F G tp s.2 oc hm) (hFr : mFr am a1 a2 a3 hm0 hm) (h : mplainly_2 n F s = some x) (hL2 : ∀ s : Int32 × (Nat → Int32), x = (.inl s) → ∀ hm', mW cB cI am a1 a2 a3 F G tp s.2 oc hm' → mFr am a1 a2 a3 hm0 hm' → zV s0 D (zty cB cI cJ cD) yX12_plainly cX12_plainly 2 none 0 0 0 0 2 [(0, .ref am), (1, .int s.1)] [] hi hm' nx Q) (hQ : ∀ r : (Nat → Int32) × (Nat → Int32), x = (.inr r) → ∀ hm', mW cB cI am a1 a2 a3 r.1 G tp r.2 oc hm' → mFr am a1 a2 a3 hm0 hm' → Q none hi hm' nx) : zV s0 D (zty cB cI cJ cD) yX12_plainly cX12_plainly 2 none 0 0 0 0 2 [(0, .ref am), (1, .int s.1)] [] hi hm nx Q := by
  unfold mplainly_2 at h
  refine zV_blk (pc' := 6) (lo' := [(0, .ref am), (1, .int s.1)]) (st' := [.int 442, .int s.1]) [.iload_n 1, .sipush 442] (by decide +kernel) rfl ?_
  refine zV_icmp_ge (tgt := 26) (off := 20) (by decide +kernel) (by decide) (fun q => ?_) (fun q => ?_)
  · replace h := zif_pos q h
    clear q
    refine zV_blk (pc' := 27) (lo' := [(0, .ref am), (1, .int s.1)]) (st' := [.ref am]) [.aload_n 0] (by decide +kernel) rfl ?_
    refine m_get (idx := 18) (k := 12) (v := .ref a2) hW m_in12 (by decide) (zT_mem 1452 (by decide +kernel) rfl) rfl (by decide +kernel) ?_
    refine zV_blk (pc' := 34) (lo' := [(0, .ref am), (1, .int s.1)]) (st' := [.int 1, .int 2652, .ref a2]) [.sipush 2652, .iconst 1] (by decide +kernel) rfl ?_
    obtain ⟨hz, h⟩ := zck_some h
    refine m_wst hW hz (by decide +kernel) (fun hm hW hFr2 => ?_)
    replace hFr := hFr.tr hFr2; clear hFr2
    refine zV_blk (pc' := 36) (lo' := [(0, .ref am), (1, .int s.1)]) (st' := [.ref am]) [.aload_n 0] (by decide +kernel) rfl ?_
    refine m_get (idx := 18) (k := 12) (v := .ref a2) hW m_in12 (by decide) (zT_mem 1452 (by decide +kernel) rfl) rfl (by decide +kernel) ?_
    refine zV_blk (pc' := 45) (lo' := [(0, .ref am), (1, .int s.1)]) (st' := [.int 365, .int 2653, .ref a2]) [.sipush 2653, .sipush 365] (by decide +kernel) rfl ?_
    obtain ⟨hz, h⟩ := zck_some h
    refine m_wst hW hz (by decide +kernel) (fun hm hW hFr2 => ?_)
    replace hFr := hFr.tr hFr2; clear hFr2
    refine zV_blk (pc' := 47) (lo' := [(0, .ref am), (1, .int s.1)]) (st' := [.ref am]) [.aload_n 0] (by decide +kernel) rfl ?_
    refine m_get (idx := 18) (k := 12) (v := .ref a2) hW m_in12 (by decide) (zT_mem 1452 (by decide +kernel) rfl) rfl (by decide +kernel) ?_
    refine zV_blk (pc' := 54) (lo' := [(0, .ref am), (1, .int s.1)]) (st' := [.int 1, .int 2654, .ref a2]) [.sipush 2654, .iconst 1] (by decide +kernel) rfl ?_
    obtain ⟨hz, h⟩ := zck_some h
    refine m_wst hW hz (by decide +kernel) (fun hm hW hFr2 => ?_)
    replace hFr := hFr.tr hFr2; clear hFr2
    refine zV_blk (pc' := 56) (lo' := [(0, .ref am), (1, .int s.1)]) (st' := [.ref am]) [.aload_n 0] (by decide +kernel) rfl ?_
    refine m_get (idx := 18) (k := 12) (v := .ref a2) hW m_in12 (by decide) (zT_mem 1452 (by decide +kernel) rfl) rfl (by decide +kernel) ?_
    refine zV_blk (pc' := 64) (lo' := [(0, .ref am), (1, .int s.1)]) (st' := [.int 7, .int 2658, .ref a2]) [.sipush 2658, .bipush 7] (by decide +kernel) rfl ?_
    obtain ⟨hz, h⟩ := zck_some h
    refine m_wst hW hz (by decide +kernel) (fun hm hW hFr2 => ?_)
    replace hFr := hFr.tr hFr2; clear hFr2
    refine zV_blk (pc' := 66) (lo' := [(0, .ref am), (1, .int s.1)]) (st' := [.ref am]) [.aload_n 0] (by decide +kernel) rfl ?_
    refine m_get (idx := 18) (k := 12) (v := .ref a2) hW m_in12 (by decide) (zT_mem 1452 (by decide +kernel) rfl) rfl (by decide +kernel) ?_
    refine zV_blk (pc' := 73) (lo' := [(0, .ref am), (1, .int s.1)]) (st' := [.int 1, .int 2660, .ref a2]) [.sipush 2660, .iconst 1] (by decide +kernel) rfl ?_
    obtain ⟨hz, h⟩ := zck_some h
    refine m_wst hW hz (by decide +kernel) (fun hm hW hFr2 => ?_)
    replace hFr := hFr.tr hFr2; clear hFr2
    refine zV_blk (pc' := 75) (lo' := [(0, .ref am), (1, .int s.1)]) (st' := [.ref am]) [.aload_n 0] (by decide +kernel) rfl ?_
    refine m_get (idx := 18) (k := 12) (v := .ref a2) hW m_in12 (by decide) (zT_mem 1452 (by decide +kernel) rfl) rfl (by decide +kernel) ?_
    refine zV_blk (pc' := 84) (lo' := [(0, .ref am), (1, .int s.1)]) (st' := [.int 365, .int 2664, .ref a2]) [.sipush 2664, .sipush 365] (by decide +kernel) rfl ?_
    obtain ⟨hz, h⟩ := zck_some h
    refine m_wst hW hz (by decide +kernel) (fun hm hW hFr2 => ?_)
    replace hFr := hFr.tr hFr2; clear hFr2
    refine zV_blk (pc' := 86) (lo' := [(0, .ref am), (1, .int s.1)]) (st' := [.ref am]) [.aload_n 0] (by decide +kernel) rfl ?_
    refine m_get (idx := 18) (k := 12) (v := .ref a2) hW m_in12 (by decide) (zT_mem 1452 (by decide +kernel) rfl) rfl (by decide +kernel) ?_
    refine zV_blk (pc' := 93) (lo' := [(0, .ref am), (1, .int s.1)]) (st' := [.int 1, .int 2666, .ref a2]) [.sipush 2666, .iconst 1] (by decide +kernel) rfl ?_
    obtain ⟨hz, h⟩ := zck_some h
    refine m_wst hW hz (by decide +kernel) (fun hm hW hFr2 => ?_)
    replace hFr := hFr.tr hFr2; clear hFr2
    refine zV_blk (pc' := 95) (lo' := [(0, .ref am), (1, .int s.1)]) (st' := [.ref am]) [.aload_n 0] (by decide +kernel) rfl ?_
    refine m_get (idx := 18) (k := 12) (v := .ref a2) hW m_in12 (by decide) (zT_mem 1452 (by decide +kernel) rfl) rfl (by decide +kernel) ?_
    refine zV_blk (pc' := 102) (lo' := [(0, .ref am), (1, .int s.1)]) (st' := [.int 1, .int 2668, .ref a2]) [.sipush 2668, .iconst 1] (by decide +kernel) rfl ?_
    obtain ⟨hz, h⟩ := zck_some h
    refine m_wst hW hz (by decide +kernel) (fun hm hW hFr2 => ?_)
    replace hFr := hFr.tr hFr2; clear hFr2
    refine zV_blk (pc' := 105) (lo' := [(0, .ref am), (1, .int s.1)]) (st' := [.int 0, .ref am]) [.aload_n 0, .iconst 0] (by decide +kernel) rfl ?_
    refine m_put (idx := 122) (k := 13) (v := .int 0) (F' := (upd F 13 0)) (G' := G) hW m_in12 (by decide) (zT_mem 1453 (by decide +kernel) rfl) rfl rfl rfl rfl (by decide +kernel) (fun hm hW hFr2 => ?_)
    replace hFr := hFr.tr hFr2; clear hFr2
    obtain rfl := Option.some.inj h
    exact zV_vret rfl (by decide +kernel) (hQ _ rfl hm hW hFr)
  · replace h := zif_neg q h
    clear q
    refine zV_blk (pc' := 10) (lo' := [(0, .ref am), (1, .int s.1)]) (st' := [.ref am]) [.aload_n 0] (by decide +kernel) rfl ?_
    refine m_get (idx := 18) (k := 12) (v := .ref a2) hW m_in12 (by decide) (zT_mem 1452 (by decide +kernel) rfl) rfl (by decide +kernel) ?_
    refine zV_blk (pc' := 19) (lo' := [(0, .ref am), (1, .int s.1)]) (st' := [.int 0, .int (2652 + s.1), .ref a2]) [.sipush 2652, .iload_n 1, .iadd, .iconst 0] (by decide +kernel) rfl ?_
    obtain ⟨hz, h⟩ := zck_some h
    refine m_wst hW hz (by decide +kernel) (fun hm hW hFr2 => ?_)
    replace hFr := hFr.tr hFr2; clear hFr2
    refine zV_blk (pc' := 23) (lo' := [(1, .int (s.1 + 1)), (0, .ref am)]) (st' := []) [.iinc 1 1] (by decide +kernel) rfl ?_
    refine zV_goto (tgt := 2) (off := -21) (by decide +kernel) (by decide) ?_
    obtain rfl := Option.some.inj h
    refine zV_pick (lo2 := [(0, .ref am), (1, .int (s.1 + 1))]) [1, 0] rfl ?_
    exact hL2 _ rfl hm hW hFr
theorem cmplainly_2L (s0 : State) (D : va_G) (cB cI cJ cD : ClassId) (am a1 a2 a3 : Nat) (F : Nat → Int32) (G : Nat → Int64) (tp : Nat → Int32) (oc : Nat → Int32) (n : Nat) : ∀ (k : Nat) (s : Int32 × (Nat → Int32)) {hi hm : zHp} {nx : Nat} {Q : Option Value → zHp → zHp → Nat → Prop} {hm0 : zHp} (_ : mW cB cI am a1 a2 a3 F G tp s.2 oc hm) (_ : mFr am a1 a2 a3 hm0 hm) {x : (Nat → Int32) × (Nat → Int32)} (_ : zloop (mplainly_2 n F) k s = some x) (hQ : ∀ r : (Nat → Int32) × (Nat → Int32), x = r → ∀ hm', mW cB cI am a1 a2 a3 r.1 G tp r.2 oc hm' → mFr am a1 a2 a3 hm0 hm' → Q none hi hm' nx), zV s0 D (zty cB cI cJ cD) yX12_plainly cX12_plainly 2 none 0 0 0 0 2 [(0, .ref am), (1, .int s.1)] [] hi hm nx Q
  | 0, s, _, _, _, _, _, hW, hFr, _, h, _ => by cases h
  | k + 1, s, hi, hm, nx, Q, hm0, hW, hFr, x, h, hQ => by
    obtain ⟨z, hz, h1, h2⟩ := zloop_succ h
    exact cmplainly_2 s0 D cB cI cJ cD am a1 a2 a3 F G tp oc n  s z hW hFr hz (fun s' hs hm' hW' hFr' => cmplainly_2L s0 D cB cI cJ cD am a1 a2 a3 F G tp oc n  k s' hW' hFr' (h1 s' hs) hQ) (fun r hr hm' hW' hFr' => hQ r (h2 _ hr).symm hm' hW' hFr')
def mplainly (n : Nat) (F : Nat → Int32) (w : Nat → Int32) : Option ((Nat → Int32) × (Nat → Int32)) := (zloop (mplainly_2 n F) n (0, w))
theorem oX12_plainly : zO yX12_plainly cX12_plainly 2 none 0 := ⟨zT_mem 1546 (by decide +kernel) rfl, zT_mem 94 (by decide +kernel) rfl, by decide +kernel, by decide +kernel, by decide +kernel⟩
set_option maxHeartbeats 4000000 in
set_option maxRecDepth 100000 in
theorem cmplainly (s0 : State) (D : va_G) (cB cI cJ cD : ClassId) (am a1 a2 a3 : Nat) (F : Nat → Int32) (G : Nat → Int64) (tp w oc : Nat → Int32) (n : Nat) (x : (Nat → Int32) × (Nat → Int32)) (h : mplainly n F w = some x) : mC s0 D cB cI cJ cD am a1 a2 a3 yX12_plainly cX12_plainly 2 none 0 0 [] F G tp w oc none x.1 G tp x.2 oc := by
  intro hi hm nx Q hW hQ0
  have hQ : ∀ r : (Nat → Int32) × (Nat → Int32), x = r → ∀ hm', mW cB cI am a1 a2 a3 r.1 G tp r.2 oc hm' → mFr am a1 a2 a3 hm hm' → Q none hi hm' nx := fun r hr => by subst hr; exact hQ0
  have hFr : mFr am a1 a2 a3 hm hm := mFr.rf
  clear hQ0
  refine zM_of (by decide +kernel) (Nat.le_of_ble_eq_true rfl) ?_
  unfold mplainly at h
  refine zV_eq (lo2 := [(0, .ref am)]) rfl rfl rfl rfl ?_
  refine zV_blk (pc' := 2) (lo' := [(1, .int 0), (0, .ref am)]) (st' := []) [.iconst 0, .istore_n 1] (by decide +kernel) rfl ?_
  refine zV_pick (lo2 := [(0, .ref am), (1, .int 0)]) [1, 0] rfl ?_
  exact cmplainly_2L s0 D cB cI cJ cD am a1 a2 a3 F G tp oc n  n (0, w) hW hFr h hQ

