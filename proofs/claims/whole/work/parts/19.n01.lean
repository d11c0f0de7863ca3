theorem z_in9 : ∀ w ∈ u_ws RX9 TX9 7, w ∈ zT := zT_all _ [240, 242, 244, 246, 248, 250, 252] (by decide +kernel) (by decide +kernel)

def n_fail (F : Nat → Int32) (x1 : Int32) (x2 : Int32) : Option ((Nat → Int32)) := (if ((F 3) : Int32) = (0 : Int32) then some (upd (upd (upd F 3 x1) 4 x2) 1 0) else some (upd F 1 0))
theorem oX9_fail : zO yX9_fail cX9_fail 3 none 2 := ⟨zT_mem 408 (by decide +kernel) rfl, zT_mem 95 (by decide +kernel) rfl, by decide +kernel, by decide +kernel, by decide +kernel⟩
set_option maxHeartbeats 4000000 in
set_option maxRecDepth 100000 in
theorem cn_fail (s0 : State) (D : va_G) (cB cI cJ cD : ClassId) (am a1 a2 a3 : Nat) (F : Nat → Int32) (G : Nat → Int64) (tp w oc : Nat → Int32) (x1 : Int32) (x2 : Int32) (x : (Nat → Int32)) (h : n_fail F x1 x2 = some x) : sK s0 D cB cI cJ cD am a1 a2 a3 yX9_fail cX9_fail 3 none 0 0 [.int x1, .int x2] F G tp w oc none x G tp w oc := by
  intro hi hm nx Q hW hQ0
  have hQ : ∀ r : (Nat → Int32), x = r → ∀ hm', sW cB cI am a1 a2 a3 r G tp w oc hm' → sFr am a1 a2 a3 hm hm' → Q none hi hm' nx := fun r hr => by subst hr; exact hQ0
  have hFr : sFr am a1 a2 a3 hm hm := sFr.rf
  clear hQ0
  refine zM_of (by decide +kernel) (Nat.le_of_ble_eq_true rfl) ?_
  unfold n_fail at h
  refine zV_eq (lo2 := [(0, .ref am), (1, .int x1), (2, .int x2)]) rfl rfl rfl rfl ?_
  refine zV_blk (pc' := 1) (lo' := [(0, .ref am), (1, .int x1), (2, .int x2)]) (st' := [.ref am]) [.aload_n 0] (by decide +kernel) rfl ?_
  refine s_get (idx := 18) (k := 3) (v := .int (F 3)) hW z_in9 (by decide) (zT_mem 233 (by decide +kernel) rfl) rfl (by decide +kernel) ?_
  refine zV_if_ne (tgt := 17) (off := 13) (by decide +kernel) (by decide) (fun q => ?_) (fun q => ?_)
  · replace h := zif_neg q h
    clear q
    refine zV_blk (pc' := 19) (lo' := [(0, .ref am), (1, .int x1), (2, .int x2)]) (st' := [.int 0, .ref am]) [.aload_n 0, .iconst 0] (by decide +kernel) rfl ?_
    refine s_put (idx := 11) (k := 1) (v := .int 0) (F' := (upd F 1 0)) (G' := G) hW z_in9 (by decide) (zT_mem 229 (by decide +kernel) rfl) rfl rfl rfl rfl (by decide +kernel) (fun hm hW hFr2 => ?_)
    replace hFr := hFr.tr hFr2; clear hFr2
    obtain rfl := Option.some.inj h
    exact zV_vret rfl (by decide +kernel) (hQ _ rfl hm hW hFr)
  · replace h := zif_pos q h
    clear q
    refine zV_blk (pc' := 9) (lo' := [(0, .ref am), (1, .int x1), (2, .int x2)]) (st' := [.int x1, .ref am]) [.aload_n 0, .iload_n 1] (by decide +kernel) rfl ?_
    refine s_put (idx := 18) (k := 3) (v := .int x1) (F' := (upd F 3 x1)) (G' := G) hW z_in9 (by decide) (zT_mem 233 (by decide +kernel) rfl) rfl rfl rfl rfl (by decide +kernel) (fun hm hW hFr2 => ?_)
    replace hFr := hFr.tr hFr2; clear hFr2
    refine zV_blk (pc' := 14) (lo' := [(0, .ref am), (1, .int x1), (2, .int x2)]) (st' := [.int x2, .ref am]) [.aload_n 0, .iload_n 2] (by decide +kernel) rfl ?_
    refine s_put (idx := 21) (k := 4) (v := .int x2) (F' := (upd (upd F 3 x1) 4 x2)) (G' := G) hW z_in9 (by decide) (zT_mem 236 (by decide +kernel) rfl) rfl rfl rfl rfl (by decide +kernel) (fun hm hW hFr2 => ?_)
    replace hFr := hFr.tr hFr2; clear hFr2
    refine zV_blk (pc' := 19) (lo' := [(0, .ref am), (1, .int x1), (2, .int x2)]) (st' := [.int 0, .ref am]) [.aload_n 0, .iconst 0] (by decide +kernel) rfl ?_
    refine s_put (idx := 11) (k := 1) (v := .int 0) (F' := (upd (upd (upd F 3 x1) 4 x2) 1 0)) (G' := G) hW z_in9 (by decide) (zT_mem 229 (by decide +kernel) rfl) rfl rfl rfl rfl (by decide +kernel) (fun hm hW hFr2 => ?_)
    replace hFr := hFr.tr hFr2; clear hFr2
    obtain rfl := Option.some.inj h
    exact zV_vret rfl (by decide +kernel) (hQ _ rfl hm hW hFr)

def n_advance_232 (n : Nat) (F : Nat → Int32) (tp : Nat → Int32) : Option ((Nat → Int32)) := (if ((F 1) : Int32) = (3 : Int32) then (if (((F 6) - (F 2)) : Int32) ≤ (7 : Int32) then some F else some (upd F 1 0)) else some F)
set_option maxHeartbeats 4000000 in
set_option maxRecDepth 100000 in
theorem cn_advance_232 (s0 : State) (D : va_G) (cB cI cJ cD : ClassId) (am a1 a2 a3 : Nat) (F : Nat → Int32) (G : Nat → Int64) (tp w oc : Nat → Int32) (n : Nat) {hi hm : zHp} {nx : Nat} {Q : Option Value → zHp → zHp → Nat → Prop} {hm0 : zHp} {x : (Nat → Int32)} (hW : sW cB cI am a1 a2 a3 F G tp w oc hm) (hFr : sFr am a1 a2 a3 hm0 hm) (h : n_advance_232 n F tp = some x) (hQ : ∀ r : (Nat → Int32), x = r → ∀ hm', sW cB cI am a1 a2 a3 r G tp w oc hm' → sFr am a1 a2 a3 hm0 hm' → Q none hi hm' nx) : zV s0 D (zty cB cI cJ cD) yX9_advance cX9_advance 4 none 1 20 0 0 232 [(0, .ref am)] [] hi hm nx Q := by
  unfold n_advance_232 at h
  refine zV_blk (pc' := 233) (lo' := [(0, .ref am)]) (st' := [.ref am]) [.aload_n 0] (by decide +kernel) rfl ?_
  refine s_get (idx := 11) (k := 1) (v := .int (F 1)) hW z_in9 (by decide) (zT_mem 229 (by decide +kernel) rfl) rfl (by decide +kernel) ?_
  refine zV_blk (pc' := 237) (lo' := [(0, .ref am)]) (st' := [.int 3, .int (F 1)]) [.iconst 3] (by decide +kernel) rfl ?_
  refine zV_icmp_ne (tgt := 259) (off := 22) (by decide +kernel) (by decide) (fun q => ?_) (fun q => ?_)
  · replace h := zif_neg q h
    clear q
    obtain rfl := Option.some.inj h
    exact zV_vret rfl (by decide +kernel) (hQ _ rfl hm hW hFr)
  · replace h := zif_pos q h
    clear q
    refine zV_blk (pc' := 241) (lo' := [(0, .ref am)]) (st' := [.ref am]) [.aload_n 0] (by decide +kernel) rfl ?_
    refine s_get (idx := 24) (k := 6) (v := .int (F 6)) hW z_in9 (by decide) (zT_mem 239 (by decide +kernel) rfl) rfl (by decide +kernel) ?_
    refine zV_blk (pc' := 245) (lo' := [(0, .ref am)]) (st' := [.ref am, .int (F 6)]) [.aload_n 0] (by decide +kernel) rfl ?_
    refine s_get (idx := 15) (k := 2) (v := .int (F 2)) hW z_in9 (by decide) (zT_mem 231 (by decide +kernel) rfl) rfl (by decide +kernel) ?_
    refine zV_blk (pc' := 251) (lo' := [(0, .ref am)]) (st' := [.int 7, .int ((F 6) - (F 2))]) [.isub, .bipush 7] (by decide +kernel) rfl ?_
    refine zV_icmp_le (tgt := 259) (off := 8) (by decide +kernel) (by decide) (fun q => ?_) (fun q => ?_)
    · replace h := zif_pos q h
      clear q
      obtain rfl := Option.some.inj h
      exact zV_vret rfl (by decide +kernel) (hQ _ rfl hm hW hFr)
    · replace h := zif_neg q h
      clear q
      refine zV_blk (pc' := 256) (lo' := [(0, .ref am)]) (st' := [.int 0, .ref am]) [.aload_n 0, .iconst 0] (by decide +kernel) rfl ?_
      refine s_put (idx := 11) (k := 1) (v := .int 0) (F' := (upd F 1 0)) (G' := G) hW z_in9 (by decide) (zT_mem 229 (by decide +kernel) rfl) rfl rfl rfl rfl (by decide +kernel) (fun hm hW hFr2 => ?_)
      replace hFr := hFr.tr hFr2; clear hFr2
      obtain rfl := Option.some.inj h
      exact zV_vret rfl (by decide +kernel) (hQ _ rfl hm hW hFr)
def n_advance_224 (n : Nat) (F : Nat → Int32) (tp : Nat → Int32) (x2 : Int32) (x3 : Int32) : Option ((Nat → Int32)) := (if (x3 : Int32) = (0 : Int32) then (n_advance_232 n F tp) else (if (x2 : Int32) = (0 : Int32) then (n_advance_232 n F tp) else some (upd F 1 0)))
set_option maxHeartbeats 4000000 in
set_option maxRecDepth 100000 in
theorem cn_advance_224 (s0 : State) (D : va_G) (cB cI cJ cD : ClassId) (am a1 a2 a3 : Nat) (F : Nat → Int32) (G : Nat → Int64) (tp w oc : Nat → Int32) (n : Nat) (x2 : Int32) (x3 : Int32) {hi hm : zHp} {nx : Nat} {Q : Option Value → zHp → zHp → Nat → Prop} {hm0 : zHp} {x : (Nat → Int32)} (hW : sW cB cI am a1 a2 a3 F G tp w oc hm) (hFr : sFr am a1 a2 a3 hm0 hm) (h : n_advance_224 n F tp x2 x3 = some x) (hQ : ∀ r : (Nat → Int32), x = r → ∀ hm', sW cB cI am a1 a2 a3 r G tp w oc hm' → sFr am a1 a2 a3 hm0 hm' → Q none hi hm' nx) : zV s0 D (zty cB cI cJ cD) yX9_advance cX9_advance 4 none 1 20 0 0 224 [(0, .ref am), (2, .int x2), (3, .int x3)] [] hi hm nx Q := by
  unfold n_advance_224 at h
  refine zV_blk (pc' := 225) (lo' := [(0, .ref am), (2, .int x2), (3, .int x3)]) (st' := [.int x3]) [.iload_n 3] (by decide +kernel) rfl ?_
  refine zV_if_eq (tgt := 232) (off := 7) (by decide +kernel) (by decide) (fun q => ?_) (fun q => ?_)
  · replace h := zif_pos q h
    clear q
    refine zV_pick (lo2 := [(0, .ref am)]) [0] rfl ?_
    exact cn_advance_232 s0 D cB cI cJ cD am a1 a2 a3 F G tp w oc n  hW hFr h hQ
  · replace h := zif_neg q h
    clear q
    refine zV_blk (pc' := 229) (lo' := [(0, .ref am), (2, .int x2), (3, .int x3)]) (st' := [.int x2]) [.iload_n 2] (by decide +kernel) rfl ?_
    refine zV_if_ne (tgt := 254) (off := 25) (by decide +kernel) (by decide) (fun q => ?_) (fun q => ?_)
    · replace h := zif_neg q h
      clear q
      refine zV_blk (pc' := 256) (lo' := [(0, .ref am), (2, .int x2), (3, .int x3)]) (st' := [.int 0, .ref am]) [.aload_n 0, .iconst 0] (by decide +kernel) rfl ?_
      refine s_put (idx := 11) (k := 1) (v := .int 0) (F' := (upd F 1 0)) (G' := G) hW z_in9 (by decide) (zT_mem 229 (by decide +kernel) rfl) rfl rfl rfl rfl (by decide +kernel) (fun hm hW hFr2 => ?_)
      replace hFr := hFr.tr hFr2; clear hFr2
      obtain rfl := Option.some.inj h
      exact zV_vret rfl (by decide +kernel) (hQ _ rfl hm hW hFr)
    · replace h := zif_pos q h
      clear q
      refine zV_pick (lo2 := [(0, .ref am)]) [0] rfl ?_
      exact cn_advance_232 s0 D cB cI cJ cD am a1 a2 a3 F G tp w oc n  hW hFr h hQ
def n_advance_177 (n : Nat) (tp : Nat → Int32) (x2 : Int32) (x3 : Int32) (s : (Nat → Int32)) : Option (((Nat → Int32)) ⊕ ((Nat → Int32))) := (if (x3 : Int32) = (0 : Int32) then ((n_advance_224 n s tp x2 x3).map (fun z => .inr z)) else (if ((s 0) : Int32) ≤ ((s 6) : Int32) then ((n_advance_224 n s tp x2 x3).map (fun z => .inr z)) else zck (zin ((s 6)) 800) ((k_sortOf (tp ((s 6) : Int32).toNatClampNeg)).bind (fun v3 => (if (v3 : Int32) = ((s 1) : Int32) then some (.inl (upd s 6 ((s 6) + 1))) else ((n_advance_224 n s tp x2 x3).map (fun z => .inr z)))))))
set_option maxHeartbeats 4000000 in
set_option maxRecDepth 100000 in
theorem cn_advance_177 (s0 : State) (D : va_G) (cB cI cJ cD : ClassId) (am a1 a2 a3 : Nat) (G : Nat → Int64) (tp : Nat → Int32) (w : Nat → Int32) (oc : Nat → Int32) (n : Nat) (x2 : Int32) (x3 : Int32) (s : (Nat → Int32)) (x : ((Nat → Int32)) ⊕ ((Nat → Int32))) {hi hm : zHp} {nx : Nat} {Q : Option Value → zHp → zHp → Nat → Prop} {hm0 : zHp} (hW : sW cB cI am a1 a2 a3 s G tp w oc hm) (hFr : sFr am a1 a2 a3 hm0 hm) (h : n_advance_177 n tp x2 x3 s = some x) (hL177 : ∀ s : (Nat → Int32), x = (.inl s) → ∀ hm', sW cB cI am a1 a2 a3 s G tp w oc hm' → sFr am a1 a2 a3 hm0 hm' → zV s0 D (zty cB cI cJ cD) yX9_advance cX9_advance 4 none 1 20 0 0 177 [(0, .ref am), (2, .int x2), (3, .int x3)] [] hi hm' nx Q) (hQ : ∀ r : (Nat → Int32), x = (.inr r) → ∀ hm', sW cB cI am a1 a2 a3 r G tp w oc hm' → sFr am a1 a2 a3 hm0 hm' → Q none hi hm' nx) : zV s0 D (zty cB cI cJ cD) yX9_advance cX9_advance 4 none 1 20 0 0 177 [(0, .ref am), (2, .int x2), (3, .int x3)] [] hi hm nx Q := by
  unfold n_advance_177 at h
  refine zV_blk (pc' := 178) (lo' := [(0, .ref am), (2, .int x2), (3, .int x3)]) (st' := [.int x3]) [.iload_n 3] (by decide +kernel) rfl ?_
  refine zV_if_eq (tgt := 224) (off := 46) (by decide +kernel) (by decide) (fun q => ?_) (fun q => ?_)
  · replace h := zif_pos q h
    clear q
    obtain ⟨z1, h9, hx⟩ := zmap h
    clear h; subst hx; have h := h9; clear h9
    refine zV_pick (lo2 := [(0, .ref am), (2, .int x2), (3, .int x3)]) [0, 1, 2] rfl ?_
    exact cn_advance_224 s0 D cB cI cJ cD am a1 a2 a3 s G tp w oc n x2 x3 hW hFr h (fun r hr => hQ r (by rw [hr]))
  · replace h := zif_neg q h
    clear q
    refine zV_blk (pc' := 182) (lo' := [(0, .ref am), (2, .int x2), (3, .int x3)]) (st' := [.ref am]) [.aload_n 0] (by decide +kernel) rfl ?_
    refine s_get (idx := 24) (k := 6) (v := .int (s 6)) hW z_in9 (by decide) (zT_mem 239 (by decide +kernel) rfl) rfl (by decide +kernel) ?_
    refine zV_blk (pc' := 186) (lo' := [(0, .ref am), (2, .int x2), (3, .int x3)]) (st' := [.ref am, .int (s 6)]) [.aload_n 0] (by decide +kernel) rfl ?_
    refine s_get (idx := 37) (k := 0) (v := .int (s 0)) hW z_in9 (by decide) (zT_mem 227 (by decide +kernel) rfl) rfl (by decide +kernel) ?_
    refine zV_icmp_ge (tgt := 224) (off := 35) (by decide +kernel) (by decide) (fun q => ?_) (fun q => ?_)
    · replace h := zif_pos q h
      clear q
      obtain ⟨z2, h9, hx⟩ := zmap h
      clear h; subst hx; have h := h9; clear h9
      refine zV_pick (lo2 := [(0, .ref am), (2, .int x2), (3, .int x3)]) [0, 1, 2] rfl ?_
      exact cn_advance_224 s0 D cB cI cJ cD am a1 a2 a3 s G tp w oc n x2 x3 hW hFr h (fun r hr => hQ r (by rw [hr]))
    · replace h := zif_neg q h
      clear q
      refine zV_blk (pc' := 193) (lo' := [(0, .ref am), (2, .int x2), (3, .int x3)]) (st' := [.ref am]) [.aload_n 0] (by decide +kernel) rfl ?_
      refine s_get (idx := 27) (k := 5) (v := .ref a1) hW z_in9 (by decide) (zT_mem 238 (by decide +kernel) rfl) rfl (by decide +kernel) ?_
      refine zV_blk (pc' := 197) (lo' := [(0, .ref am), (2, .int x2), (3, .int x3)]) (st' := [.ref am, .ref a1]) [.aload_n 0] (by decide +kernel) rfl ?_
      refine s_get (idx := 24) (k := 6) (v := .int (s 6)) hW z_in9 (by decide) (zT_mem 239 (by decide +kernel) rfl) rfl (by decide +kernel) ?_
      obtain ⟨hz, h⟩ := zck_some h
      refine s_tld hW hz (by decide +kernel) ?_
      obtain ⟨v3, hv3, h⟩ := zbind h
      refine zV_roS (idx := 40) (rest := []) (fun Q2 hQ2 => ck_sortOf s0 D cB cI cJ cD (tp ((s 6) : Int32).toNatClampNeg) v3 hv3 hQ2) oX9_sortOf (zT_mem 342 (by decide +kernel) rfl) (zT_mem 343 (by decide +kernel) rfl) rfl rfl (Nat.le_of_ble_eq_true rfl) ⟨by decide, by decide⟩ (by decide +kernel) ?_
      refine zV_eq (st2 := [.int v3]) rfl rfl rfl rfl ?_
      refine zV_blk (pc' := 205) (lo' := [(0, .ref am), (2, .int x2), (3, .int x3)]) (st' := [.ref am, .int v3]) [.aload_n 0] (by decide +kernel) rfl ?_
      refine s_get (idx := 11) (k := 1) (v := .int (s 1)) hW z_in9 (by decide) (zT_mem 229 (by decide +kernel) rfl) rfl (by decide +kernel) ?_
      refine zV_icmp_ne (tgt := 224) (off := 16) (by decide +kernel) (by decide) (fun q => ?_) (fun q => ?_)
      · replace h := zif_neg q h
        clear q
        obtain ⟨z4, h9, hx⟩ := zmap h
        clear h; subst hx; have h := h9; clear h9
        refine zV_pick (lo2 := [(0, .ref am), (2, .int x2), (3, .int x3)]) [0, 1, 2] rfl ?_
        exact cn_advance_224 s0 D cB cI cJ cD am a1 a2 a3 s G tp w oc n x2 x3 hW hFr h (fun r hr => hQ r (by rw [hr]))
      · replace h := zif_pos q h
        clear q
        refine zV_blk (pc' := 213) (lo' := [(0, .ref am), (2, .int x2), (3, .int x3)]) (st' := [.ref am, .ref am]) [.aload_n 0, .dup] (by decide +kernel) rfl ?_
        refine s_get (idx := 24) (k := 6) (v := .int (s 6)) hW z_in9 (by decide) (zT_mem 239 (by decide +kernel) rfl) rfl (by decide +kernel) ?_
        refine zV_blk (pc' := 218) (lo' := [(0, .ref am), (2, .int x2), (3, .int x3)]) (st' := [.int ((s 6) + 1), .ref am]) [.iconst 1, .iadd] (by decide +kernel) rfl ?_
        refine s_put (idx := 24) (k := 6) (v := .int ((s 6) + 1)) (F' := (upd s 6 ((s 6) + 1))) (G' := G) hW z_in9 (by decide) (zT_mem 239 (by decide +kernel) rfl) rfl rfl rfl rfl (by decide +kernel) (fun hm hW hFr2 => ?_)
        replace hFr := hFr.tr hFr2; clear hFr2
        refine zV_goto (tgt := 177) (off := -44) (by decide +kernel) (by decide) ?_
        obtain rfl := Option.some.inj h
        refine zV_pick (lo2 := [(0, .ref am), (2, .int x2), (3, .int x3)]) [0, 1, 2] rfl ?_
        exact hL177 _ rfl hm hW hFr
theorem cn_advance_177L (s0 : State) (D : va_G) (cB cI cJ cD : ClassId) (am a1 a2 a3 : Nat) (G : Nat → Int64) (tp : Nat → Int32) (w : Nat → Int32) (oc : Nat → Int32) (n : Nat) (x2 : Int32) (x3 : Int32) : ∀ (k : Nat) (s : (Nat → Int32)) {hi hm : zHp} {nx : Nat} {Q : Option Value → zHp → zHp → Nat → Prop} {hm0 : zHp} (_ : sW cB cI am a1 a2 a3 s G tp w oc hm) (_ : sFr am a1 a2 a3 hm0 hm) {x : (Nat → Int32)} (_ : zloop (n_advance_177 n tp x2 x3) k s = some x) (hQ : ∀ r : (Nat → Int32), x = r → ∀ hm', sW cB cI am a1 a2 a3 r G tp w oc hm' → sFr am a1 a2 a3 hm0 hm' → Q none hi hm' nx), zV s0 D (zty cB cI cJ cD) yX9_advance cX9_advance 4 none 1 20 0 0 177 [(0, .ref am), (2, .int x2), (3, .int x3)] [] hi hm nx Q
  | 0, s, _, _, _, _, _, hW, hFr, _, h, _ => by cases h
  | k + 1, s, hi, hm, nx, Q, hm0, hW, hFr, x, h, hQ => by
    obtain ⟨z, hz, h1, h2⟩ := zloop_succ h
    exact cn_advance_177 s0 D cB cI cJ cD am a1 a2 a3 G tp w oc n x2 x3 s z hW hFr hz (fun s' hs hm' hW' hFr' => cn_advance_177L s0 D cB cI cJ cD am a1 a2 a3 G tp w oc n x2 x3 k s' hW' hFr' (h1 s' hs) hQ) (fun r hr hm' hW' hFr' => hQ r (h2 _ hr).symm hm' hW' hFr')
def n_advance_174 (n : Nat) (F : Nat → Int32) (tp : Nat → Int32) (x2 : Int32) (x3 : Int32) (t1 : Int32) : Option ((Nat → Int32)) := (zloop (n_advance_177 n tp x2 x3) n (upd F 6 t1))
set_option maxHeartbeats 4000000 in
set_option maxRecDepth 100000 in
theorem cn_advance_174 (s0 : State) (D : va_G) (cB cI cJ cD : ClassId) (am a1 a2 a3 : Nat) (F : Nat → Int32) (G : Nat → Int64) (tp w oc : Nat → Int32) (n : Nat) (x2 : Int32) (x3 : Int32) (t1 : Int32) {hi hm : zHp} {nx : Nat} {Q : Option Value → zHp → zHp → Nat → Prop} {hm0 : zHp} {x : (Nat → Int32)} (hW : sW cB cI am a1 a2 a3 F G tp w oc hm) (hFr : sFr am a1 a2 a3 hm0 hm) (h : n_advance_174 n F tp x2 x3 t1 = some x) (hQ : ∀ r : (Nat → Int32), x = r → ∀ hm', sW cB cI am a1 a2 a3 r G tp w oc hm' → sFr am a1 a2 a3 hm0 hm' → Q none hi hm' nx) : zV s0 D (zty cB cI cJ cD) yX9_advance cX9_advance 4 none 1 20 0 0 174 [(0, .ref am), (2, .int x2), (3, .int x3)] [.int t1, .ref am] hi hm nx Q := by
  unfold n_advance_174 at h
  refine s_put (idx := 24) (k := 6) (v := .int t1) (F' := (upd F 6 t1)) (G' := G) hW z_in9 (by decide) (zT_mem 239 (by decide +kernel) rfl) rfl rfl rfl rfl (by decide +kernel) (fun hm hW hFr2 => ?_)
  replace hFr := hFr.tr hFr2; clear hFr2
  refine zV_pick (lo2 := [(0, .ref am), (2, .int x2), (3, .int x3)]) [0, 1, 2] rfl ?_
  exact cn_advance_177L s0 D cB cI cJ cD am a1 a2 a3 G tp w oc n x2 x3 n (upd F 6 t1) hW hFr h hQ
def n_advance_151 (n : Nat) (F : Nat → Int32) (tp : Nat → Int32) (x2 : Int32) (t0 : Int32) : Option ((Nat → Int32)) := (if ((F 1) : Int32) = (5 : Int32) then (n_advance_174 n F tp x2 t0 (F 2)) else (n_advance_174 n F tp x2 t0 ((F 2) + 1)))
set_option maxHeartbeats 4000000 in
set_option maxRecDepth 100000 in
theorem cn_advance_151 (s0 : State) (D : va_G) (cB cI cJ cD : ClassId) (am a1 a2 a3 : Nat) (F : Nat → Int32) (G : Nat → Int64) (tp w oc : Nat → Int32) (n : Nat) (x2 : Int32) (t0 : Int32) {hi hm : zHp} {nx : Nat} {Q : Option Value → zHp → zHp → Nat → Prop} {hm0 : zHp} {x : (Nat → Int32)} (hW : sW cB cI am a1 a2 a3 F G tp w oc hm) (hFr : sFr am a1 a2 a3 hm0 hm) (h : n_advance_151 n F tp x2 t0 = some x) (hQ : ∀ r : (Nat → Int32), x = r → ∀ hm', sW cB cI am a1 a2 a3 r G tp w oc hm' → sFr am a1 a2 a3 hm0 hm' → Q none hi hm' nx) : zV s0 D (zty cB cI cJ cD) yX9_advance cX9_advance 4 none 1 20 0 0 151 [(0, .ref am), (2, .int x2)] [.int t0] hi hm nx Q := by
  unfold n_advance_151 at h
  refine zV_blk (pc' := 154) (lo' := [(3, .int t0), (0, .ref am), (2, .int x2)]) (st' := [.ref am, .ref am]) [.istore_n 3, .aload_n 0, .aload_n 0] (by decide +kernel) rfl ?_
  refine s_get (idx := 11) (k := 1) (v := .int (F 1)) hW z_in9 (by decide) (zT_mem 229 (by decide +kernel) rfl) rfl (by decide +kernel) ?_
  refine zV_blk (pc' := 158) (lo' := [(3, .int t0), (0, .ref am), (2, .int x2)]) (st' := [.int 5, .int (F 1), .ref am]) [.iconst 5] (by decide +kernel) rfl ?_
  refine zV_icmp_ne (tgt := 168) (off := 10) (by decide +kernel) (by decide) (fun q => ?_) (fun q => ?_)
  · replace h := zif_neg q h
    clear q
    refine zV_blk (pc' := 169) (lo' := [(3, .int t0), (0, .ref am), (2, .int x2)]) (st' := [.ref am, .ref am]) [.aload_n 0] (by decide +kernel) rfl ?_
    refine s_get (idx := 15) (k := 2) (v := .int (F 2)) hW z_in9 (by decide) (zT_mem 231 (by decide +kernel) rfl) rfl (by decide +kernel) ?_
    refine zV_blk (pc' := 174) (lo' := [(3, .int t0), (0, .ref am), (2, .int x2)]) (st' := [.int ((F 2) + 1), .ref am]) [.iconst 1, .iadd] (by decide +kernel) rfl ?_
    refine zV_pick (lo2 := [(0, .ref am), (2, .int x2), (3, .int t0)]) [1, 2, 0] rfl ?_
    exact cn_advance_174 s0 D cB cI cJ cD am a1 a2 a3 F G tp w oc n x2 t0 ((F 2) + 1) hW hFr h hQ
  · replace h := zif_pos q h
    clear q
    refine zV_blk (pc' := 162) (lo' := [(3, .int t0), (0, .ref am), (2, .int x2)]) (st' := [.ref am, .ref am]) [.aload_n 0] (by decide +kernel) rfl ?_
    refine s_get (idx := 15) (k := 2) (v := .int (F 2)) hW z_in9 (by decide) (zT_mem 231 (by decide +kernel) rfl) rfl (by decide +kernel) ?_
    refine zV_goto (tgt := 174) (off := 9) (by decide +kernel) (by decide) ?_
    refine zV_pick (lo2 := [(0, .ref am), (2, .int x2), (3, .int t0)]) [1, 2, 0] rfl ?_
    exact cn_advance_174 s0 D cB cI cJ cD am a1 a2 a3 F G tp w oc n x2 t0 (F 2) hW hFr h hQ
def n_advance_146 (n : Nat) (F : Nat → Int32) (tp : Nat → Int32) (x2 : Int32) : Option ((Nat → Int32)) := (n_advance_151 n F tp x2 1)
set_option maxHeartbeats 4000000 in
set_option maxRecDepth 100000 in
theorem cn_advance_146 (s0 : State) (D : va_G) (cB cI cJ cD : ClassId) (am a1 a2 a3 : Nat) (F : Nat → Int32) (G : Nat → Int64) (tp w oc : Nat → Int32) (n : Nat) (x2 : Int32) {hi hm : zHp} {nx : Nat} {Q : Option Value → zHp → zHp → Nat → Prop} {hm0 : zHp} {x : (Nat → Int32)} (hW : sW cB cI am a1 a2 a3 F G tp w oc hm) (hFr : sFr am a1 a2 a3 hm0 hm) (h : n_advance_146 n F tp x2 = some x) (hQ : ∀ r : (Nat → Int32), x = r → ∀ hm', sW cB cI am a1 a2 a3 r G tp w oc hm' → sFr am a1 a2 a3 hm0 hm' → Q none hi hm' nx) : zV s0 D (zty cB cI cJ cD) yX9_advance cX9_advance 4 none 1 20 0 0 146 [(0, .ref am), (2, .int x2)] [] hi hm nx Q := by
  unfold n_advance_146 at h
  refine zV_blk (pc' := 147) (lo' := [(0, .ref am), (2, .int x2)]) (st' := [.int 1]) [.iconst 1] (by decide +kernel) rfl ?_
  refine zV_goto (tgt := 151) (off := 4) (by decide +kernel) (by decide) ?_
  refine zV_pick (lo2 := [(0, .ref am), (2, .int x2)]) [0, 1] rfl ?_
  exact cn_advance_151 s0 D cB cI cJ cD am a1 a2 a3 F G tp w oc n x2 1 hW hFr h hQ
def n_advance_127 (n : Nat) (F : Nat → Int32) (tp : Nat → Int32) (x2 : Int32) (t1 : Int32) : Option ((Nat → Int32)) := (if (((upd F 1 t1) 1) : Int32) = (2 : Int32) then (n_advance_146 n (upd F 1 t1) tp x2) else (if (((upd F 1 t1) 1) : Int32) = (3 : Int32) then (n_advance_146 n (upd F 1 t1) tp x2) else (n_advance_151 n (upd F 1 t1) tp x2 0)))
set_option maxHeartbeats 4000000 in
set_option maxRecDepth 100000 in
theorem cn_advance_127 (s0 : State) (D : va_G) (cB cI cJ cD : ClassId) (am a1 a2 a3 : Nat) (F : Nat → Int32) (G : Nat → Int64) (tp w oc : Nat → Int32) (n : Nat) (x2 : Int32) (t1 : Int32) {hi hm : zHp} {nx : Nat} {Q : Option Value → zHp → zHp → Nat → Prop} {hm0 : zHp} {x : (Nat → Int32)} (hW : sW cB cI am a1 a2 a3 F G tp w oc hm) (hFr : sFr am a1 a2 a3 hm0 hm) (h : n_advance_127 n F tp x2 t1 = some x) (hQ : ∀ r : (Nat → Int32), x = r → ∀ hm', sW cB cI am a1 a2 a3 r G tp w oc hm' → sFr am a1 a2 a3 hm0 hm' → Q none hi hm' nx) : zV s0 D (zty cB cI cJ cD) yX9_advance cX9_advance 4 none 1 20 0 0 127 [(0, .ref am), (2, .int x2)] [.int t1, .ref am] hi hm nx Q := by
  unfold n_advance_127 at h
  refine s_put (idx := 11) (k := 1) (v := .int t1) (F' := (upd F 1 t1)) (G' := G) hW z_in9 (by decide) (zT_mem 229 (by decide +kernel) rfl) rfl rfl rfl rfl (by decide +kernel) (fun hm hW hFr2 => ?_)
  replace hFr := hFr.tr hFr2; clear hFr2
  refine zV_blk (pc' := 131) (lo' := [(0, .ref am), (2, .int x2)]) (st' := [.ref am]) [.aload_n 0] (by decide +kernel) rfl ?_
  refine s_get (idx := 11) (k := 1) (v := .int ((upd F 1 t1) 1)) hW z_in9 (by decide) (zT_mem 229 (by decide +kernel) rfl) rfl (by decide +kernel) ?_
  refine zV_blk (pc' := 135) (lo' := [(0, .ref am), (2, .int x2)]) (st' := [.int 2, .int ((upd F 1 t1) 1)]) [.iconst 2] (by decide +kernel) rfl ?_
  refine zV_icmp_eq (tgt := 146) (off := 11) (by decide +kernel) (by decide) (fun q => ?_) (fun q => ?_)
  · replace h := zif_pos q h
    clear q
    refine zV_pick (lo2 := [(0, .ref am), (2, .int x2)]) [0, 1] rfl ?_
    exact cn_advance_146 s0 D cB cI cJ cD am a1 a2 a3 (upd F 1 t1) G tp w oc n x2 hW hFr h hQ
  · replace h := zif_neg q h
    clear q
    refine zV_blk (pc' := 139) (lo' := [(0, .ref am), (2, .int x2)]) (st' := [.ref am]) [.aload_n 0] (by decide +kernel) rfl ?_
    refine s_get (idx := 11) (k := 1) (v := .int ((upd F 1 t1) 1)) hW z_in9 (by decide) (zT_mem 229 (by decide +kernel) rfl) rfl (by decide +kernel) ?_
    refine zV_blk (pc' := 143) (lo' := [(0, .ref am), (2, .int x2)]) (st' := [.int 3, .int ((upd F 1 t1) 1)]) [.iconst 3] (by decide +kernel) rfl ?_
    refine zV_icmp_ne (tgt := 150) (off := 7) (by decide +kernel) (by decide) (fun q => ?_) (fun q => ?_)
    · replace h := zif_neg q h
      clear q
      refine zV_blk (pc' := 151) (lo' := [(0, .ref am), (2, .int x2)]) (st' := [.int 0]) [.iconst 0] (by decide +kernel) rfl ?_
      refine zV_pick (lo2 := [(0, .ref am), (2, .int x2)]) [0, 1] rfl ?_
      exact cn_advance_151 s0 D cB cI cJ cD am a1 a2 a3 (upd F 1 t1) G tp w oc n x2 0 hW hFr h hQ
    · replace h := zif_pos q h
      clear q
      refine zV_pick (lo2 := [(0, .ref am), (2, .int x2)]) [0, 1] rfl ?_
      exact cn_advance_146 s0 D cB cI cJ cD am a1 a2 a3 (upd F 1 t1) G tp w oc n x2 hW hFr h hQ
def n_advance_98 (n : Nat) (F : Nat → Int32) (tp : Nat → Int32) (t0 : Int32) : Option ((Nat → Int32)) := (if ((F 0) : Int32) ≤ ((F 2) : Int32) then (n_advance_127 n F tp t0 5) else zck (zin ((F 2)) 800) ((k_sortOf (tp ((F 2) : Int32).toNatClampNeg)).bind (fun v1 => (n_advance_127 n F tp t0 v1))))
set_option maxHeartbeats 4000000 in
set_option maxRecDepth 100000 in
theorem cn_advance_98 (s0 : State) (D : va_G) (cB cI cJ cD : ClassId) (am a1 a2 a3 : Nat) (F : Nat → Int32) (G : Nat → Int64) (tp w oc : Nat → Int32) (n : Nat) (t0 : Int32) {hi hm : zHp} {nx : Nat} {Q : Option Value → zHp → zHp → Nat → Prop} {hm0 : zHp} {x : (Nat → Int32)} (hW : sW cB cI am a1 a2 a3 F G tp w oc hm) (hFr : sFr am a1 a2 a3 hm0 hm) (h : n_advance_98 n F tp t0 = some x) (hQ : ∀ r : (Nat → Int32), x = r → ∀ hm', sW cB cI am a1 a2 a3 r G tp w oc hm' → sFr am a1 a2 a3 hm0 hm' → Q none hi hm' nx) : zV s0 D (zty cB cI cJ cD) yX9_advance cX9_advance 4 none 1 20 0 0 98 [(0, .ref am)] [.int t0] hi hm nx Q := by
  unfold n_advance_98 at h
  refine zV_blk (pc' := 101) (lo' := [(2, .int t0), (0, .ref am)]) (st' := [.ref am, .ref am]) [.istore_n 2, .aload_n 0, .aload_n 0] (by decide +kernel) rfl ?_
  refine s_get (idx := 15) (k := 2) (v := .int (F 2)) hW z_in9 (by decide) (zT_mem 231 (by decide +kernel) rfl) rfl (by decide +kernel) ?_
  refine zV_blk (pc' := 105) (lo' := [(2, .int t0), (0, .ref am)]) (st' := [.ref am, .int (F 2), .ref am]) [.aload_n 0] (by decide +kernel) rfl ?_
  refine s_get (idx := 37) (k := 0) (v := .int (F 0)) hW z_in9 (by decide) (zT_mem 227 (by decide +kernel) rfl) rfl (by decide +kernel) ?_
  refine zV_icmp_ge (tgt := 126) (off := 18) (by decide +kernel) (by decide) (fun q => ?_) (fun q => ?_)
  · replace h := zif_pos q h
    clear q
    refine zV_blk (pc' := 127) (lo' := [(2, .int t0), (0, .ref am)]) (st' := [.int 5, .ref am]) [.iconst 5] (by decide +kernel) rfl ?_
    refine zV_pick (lo2 := [(0, .ref am), (2, .int t0)]) [1, 0] rfl ?_
    exact cn_advance_127 s0 D cB cI cJ cD am a1 a2 a3 F G tp w oc n t0 5 hW hFr h hQ
  · replace h := zif_neg q h
    clear q
    refine zV_blk (pc' := 112) (lo' := [(2, .int t0), (0, .ref am)]) (st' := [.ref am, .ref am]) [.aload_n 0] (by decide +kernel) rfl ?_
    refine s_get (idx := 27) (k := 5) (v := .ref a1) hW z_in9 (by decide) (zT_mem 238 (by decide +kernel) rfl) rfl (by decide +kernel) ?_
    refine zV_blk (pc' := 116) (lo' := [(2, .int t0), (0, .ref am)]) (st' := [.ref am, .ref a1, .ref am]) [.aload_n 0] (by decide +kernel) rfl ?_
    refine s_get (idx := 15) (k := 2) (v := .int (F 2)) hW z_in9 (by decide) (zT_mem 231 (by decide +kernel) rfl) rfl (by decide +kernel) ?_
    obtain ⟨hz, h⟩ := zck_some h
    refine s_tld hW hz (by decide +kernel) ?_
    obtain ⟨v1, hv1, h⟩ := zbind h
    refine zV_roS (idx := 40) (rest := [.ref am]) (fun Q2 hQ2 => ck_sortOf s0 D cB cI cJ cD (tp ((F 2) : Int32).toNatClampNeg) v1 hv1 hQ2) oX9_sortOf (zT_mem 342 (by decide +kernel) rfl) (zT_mem 343 (by decide +kernel) rfl) rfl rfl (Nat.le_of_ble_eq_true rfl) ⟨by decide, by decide⟩ (by decide +kernel) ?_
    refine zV_eq (st2 := [.int v1, .ref am]) rfl rfl rfl rfl ?_
    refine zV_goto (tgt := 127) (off := 4) (by decide +kernel) (by decide) ?_
    refine zV_pick (lo2 := [(0, .ref am), (2, .int t0)]) [1, 0] rfl ?_
    exact cn_advance_127 s0 D cB cI cJ cD am a1 a2 a3 F G tp w oc n t0 v1 hW hFr h hQ
def n_advance_97 (n : Nat) (F : Nat → Int32) (tp : Nat → Int32) : Option ((Nat → Int32)) := (n_advance_98 n F tp 0)
set_option maxHeartbeats 4000000 in
set_option maxRecDepth 100000 in
theorem cn_advance_97 (s0 : State) (D : va_G) (cB cI cJ cD : ClassId) (am a1 a2 a3 : Nat) (F : Nat → Int32) (G : Nat → Int64) (tp w oc : Nat → Int32) (n : Nat) {hi hm : zHp} {nx : Nat} {Q : Option Value → zHp → zHp → Nat → Prop} {hm0 : zHp} {x : (Nat → Int32)} (hW : sW cB cI am a1 a2 a3 F G tp w oc hm) (hFr : sFr am a1 a2 a3 hm0 hm) (h : n_advance_97 n F tp = some x) (hQ : ∀ r : (Nat → Int32), x = r → ∀ hm', sW cB cI am a1 a2 a3 r G tp w oc hm' → sFr am a1 a2 a3 hm0 hm' → Q none hi hm' nx) : zV s0 D (zty cB cI cJ cD) yX9_advance cX9_advance 4 none 1 20 0 0 97 [(0, .ref am)] [] hi hm nx Q := by
  unfold n_advance_97 at h
  refine zV_blk (pc' := 98) (lo' := [(0, .ref am)]) (st' := [.int 0]) [.iconst 0] (by decide +kernel) rfl ?_
  refine zV_pick (lo2 := [(0, .ref am)]) [0] rfl ?_
  exact cn_advance_98 s0 D cB cI cJ cD am a1 a2 a3 F G tp w oc n 0 hW hFr h hQ
def n_advance_78 (n : Nat) (F : Nat → Int32) (tp : Nat → Int32) (x1 : Int32) : Option ((Nat → Int32)) := (if (x1 : Int32) = (0 : Int32) then (n_advance_97 n F tp) else (if ((F 2) : Int32) = ((F 6) : Int32) then (n_advance_98 n F tp 1) else (n_advance_97 n F tp)))
set_option maxHeartbeats 4000000 in
set_option maxRecDepth 100000 in
theorem cn_advance_78 (s0 : State) (D : va_G) (cB cI cJ cD : ClassId) (am a1 a2 a3 : Nat) (F : Nat → Int32) (G : Nat → Int64) (tp w oc : Nat → Int32) (n : Nat) (x1 : Int32) {hi hm : zHp} {nx : Nat} {Q : Option Value → zHp → zHp → Nat → Prop} {hm0 : zHp} {x : (Nat → Int32)} (hW : sW cB cI am a1 a2 a3 F G tp w oc hm) (hFr : sFr am a1 a2 a3 hm0 hm) (h : n_advance_78 n F tp x1 = some x) (hQ : ∀ r : (Nat → Int32), x = r → ∀ hm', sW cB cI am a1 a2 a3 r G tp w oc hm' → sFr am a1 a2 a3 hm0 hm' → Q none hi hm' nx) : zV s0 D (zty cB cI cJ cD) yX9_advance cX9_advance 4 none 1 20 0 0 78 [(0, .ref am), (1, .int x1)] [] hi hm nx Q := by
  unfold n_advance_78 at h
  refine zV_blk (pc' := 79) (lo' := [(0, .ref am), (1, .int x1)]) (st' := [.int x1]) [.iload_n 1] (by decide +kernel) rfl ?_
  refine zV_if_eq (tgt := 97) (off := 18) (by decide +kernel) (by decide) (fun q => ?_) (fun q => ?_)
  · replace h := zif_pos q h
    clear q
    refine zV_pick (lo2 := [(0, .ref am)]) [0] rfl ?_
    exact cn_advance_97 s0 D cB cI cJ cD am a1 a2 a3 F G tp w oc n  hW hFr h hQ
  · replace h := zif_neg q h
    clear q
    refine zV_blk (pc' := 83) (lo' := [(0, .ref am), (1, .int x1)]) (st' := [.ref am]) [.aload_n 0] (by decide +kernel) rfl ?_
    refine s_get (idx := 15) (k := 2) (v := .int (F 2)) hW z_in9 (by decide) (zT_mem 231 (by decide +kernel) rfl) rfl (by decide +kernel) ?_
    refine zV_blk (pc' := 87) (lo' := [(0, .ref am), (1, .int x1)]) (st' := [.ref am, .int (F 2)]) [.aload_n 0] (by decide +kernel) rfl ?_
    refine s_get (idx := 24) (k := 6) (v := .int (F 6)) hW z_in9 (by decide) (zT_mem 239 (by decide +kernel) rfl) rfl (by decide +kernel) ?_
    refine zV_icmp_ne (tgt := 97) (off := 7) (by decide +kernel) (by decide) (fun q => ?_) (fun q => ?_)
    · replace h := zif_neg q h
      clear q
      refine zV_pick (lo2 := [(0, .ref am)]) [0] rfl ?_
      exact cn_advance_97 s0 D cB cI cJ cD am a1 a2 a3 F G tp w oc n  hW hFr h hQ
    · replace h := zif_pos q h
      clear q
      refine zV_blk (pc' := 94) (lo' := [(0, .ref am), (1, .int x1)]) (st' := [.int 1]) [.iconst 1] (by decide +kernel) rfl ?_
      refine zV_goto (tgt := 98) (off := 4) (by decide +kernel) (by decide) ?_
      refine zV_pick (lo2 := [(0, .ref am)]) [0] rfl ?_
      exact cn_advance_98 s0 D cB cI cJ cD am a1 a2 a3 F G tp w oc n 1 hW hFr h hQ
def n_advance_38 (n : Nat) (tp : Nat → Int32) (x1 : Int32) (s : (Nat → Int32)) : Option (((Nat → Int32)) ⊕ ((Nat → Int32))) := (if ((s 0) : Int32) ≤ ((s 2) : Int32) then ((n_advance_78 n s tp x1).map (fun z => .inr z)) else zck (zin ((s 2)) 800) ((k_sortOf (tp ((s 2) : Int32).toNatClampNeg)).bind (fun v2 => (if (v2 : Int32) = (1 : Int32) then some (.inl (upd s 2 ((s 2) + 1))) else ((n_advance_78 n s tp x1).map (fun z => .inr z))))))
set_option maxHeartbeats 4000000 in
set_option maxRecDepth 100000 in
theorem cn_advance_38 (s0 : State) (D : va_G) (cB cI cJ cD : ClassId) (am a1 a2 a3 : Nat) (G : Nat → Int64) (tp : Nat → Int32) (w : Nat → Int32) (oc : Nat → Int32) (n : Nat) (x1 : Int32) (s : (Nat → Int32)) (x : ((Nat → Int32)) ⊕ ((Nat → Int32))) {hi hm : zHp} {nx : Nat} {Q : Option Value → zHp → zHp → Nat → Prop} {hm0 : zHp} (hW : sW cB cI am a1 a2 a3 s G tp w oc hm) (hFr : sFr am a1 a2 a3 hm0 hm) (h : n_advance_38 n tp x1 s = some x) (hL38 : ∀ s : (Nat → Int32), x = (.inl s) → ∀ hm', sW cB cI am a1 a2 a3 s G tp w oc hm' → sFr am a1 a2 a3 hm0 hm' → zV s0 D (zty cB cI cJ cD) yX9_advance cX9_advance 4 none 1 20 0 0 38 [(0, .ref am), (1, .int x1)] [] hi hm' nx Q) (hQ : ∀ r : (Nat → Int32), x = (.inr r) → ∀ hm', sW cB cI am a1 a2 a3 r G tp w oc hm' → sFr am a1 a2 a3 hm0 hm' → Q none hi hm' nx) : zV s0 D (zty cB cI cJ cD) yX9_advance cX9_advance 4 none 1 20 0 0 38 [(0, .ref am), (1, .int x1)] [] hi hm nx Q := by
  unfold n_advance_38 at h
  refine zV_blk (pc' := 39) (lo' := [(0, .ref am), (1, .int x1)]) (st' := [.ref am]) [.aload_n 0] (by decide +kernel) rfl ?_
  refine s_get (idx := 15) (k := 2) (v := .int (s 2)) hW z_in9 (by decide) (zT_mem 231 (by decide +kernel) rfl) rfl (by decide +kernel) ?_
  refine zV_blk (pc' := 43) (lo' := [(0, .ref am), (1, .int x1)]) (st' := [.ref am, .int (s 2)]) [.aload_n 0] (by decide +kernel) rfl ?_
  refine s_get (idx := 37) (k := 0) (v := .int (s 0)) hW z_in9 (by decide) (zT_mem 227 (by decide +kernel) rfl) rfl (by decide +kernel) ?_
  refine zV_icmp_ge (tgt := 78) (off := 32) (by decide +kernel) (by decide) (fun q => ?_) (fun q => ?_)
  · replace h := zif_pos q h
    clear q
    obtain ⟨z1, h9, hx⟩ := zmap h
    clear h; subst hx; have h := h9; clear h9
    refine zV_pick (lo2 := [(0, .ref am), (1, .int x1)]) [0, 1] rfl ?_
    exact cn_advance_78 s0 D cB cI cJ cD am a1 a2 a3 s G tp w oc n x1 hW hFr h (fun r hr => hQ r (by rw [hr]))
  · replace h := zif_neg q h
    clear q
    refine zV_blk (pc' := 50) (lo' := [(0, .ref am), (1, .int x1)]) (st' := [.ref am]) [.aload_n 0] (by decide +kernel) rfl ?_
    refine s_get (idx := 27) (k := 5) (v := .ref a1) hW z_in9 (by decide) (zT_mem 238 (by decide +kernel) rfl) rfl (by decide +kernel) ?_
    refine zV_blk (pc' := 54) (lo' := [(0, .ref am), (1, .int x1)]) (st' := [.ref am, .ref a1]) [.aload_n 0] (by decide +kernel) rfl ?_
    refine s_get (idx := 15) (k := 2) (v := .int (s 2)) hW z_in9 (by decide) (zT_mem 231 (by decide +kernel) rfl) rfl (by decide +kernel) ?_
    obtain ⟨hz, h⟩ := zck_some h
    refine s_tld hW hz (by decide +kernel) ?_
    obtain ⟨v2, hv2, h⟩ := zbind h
    refine zV_roS (idx := 40) (rest := []) (fun Q2 hQ2 => ck_sortOf s0 D cB cI cJ cD (tp ((s 2) : Int32).toNatClampNeg) v2 hv2 hQ2) oX9_sortOf (zT_mem 342 (by decide +kernel) rfl) (zT_mem 343 (by decide +kernel) rfl) rfl rfl (Nat.le_of_ble_eq_true rfl) ⟨by decide, by decide⟩ (by decide +kernel) ?_
    refine zV_eq (st2 := [.int v2]) rfl rfl rfl rfl ?_
    refine zV_blk (pc' := 62) (lo' := [(0, .ref am), (1, .int x1)]) (st' := [.int 1, .int v2]) [.iconst 1] (by decide +kernel) rfl ?_
    refine zV_icmp_ne (tgt := 78) (off := 16) (by decide +kernel) (by decide) (fun q => ?_) (fun q => ?_)
    · replace h := zif_neg q h
      clear q
      obtain ⟨z3, h9, hx⟩ := zmap h
      clear h; subst hx; have h := h9; clear h9
      refine zV_pick (lo2 := [(0, .ref am), (1, .int x1)]) [0, 1] rfl ?_
      exact cn_advance_78 s0 D cB cI cJ cD am a1 a2 a3 s G tp w oc n x1 hW hFr h (fun r hr => hQ r (by rw [hr]))
    · replace h := zif_pos q h
      clear q
      refine zV_blk (pc' := 67) (lo' := [(0, .ref am), (1, .int x1)]) (st' := [.ref am, .ref am]) [.aload_n 0, .dup] (by decide +kernel) rfl ?_
      refine s_get (idx := 15) (k := 2) (v := .int (s 2)) hW z_in9 (by decide) (zT_mem 231 (by decide +kernel) rfl) rfl (by decide +kernel) ?_
      refine zV_blk (pc' := 72) (lo' := [(0, .ref am), (1, .int x1)]) (st' := [.int ((s 2) + 1), .ref am]) [.iconst 1, .iadd] (by decide +kernel) rfl ?_
      refine s_put (idx := 15) (k := 2) (v := .int ((s 2) + 1)) (F' := (upd s 2 ((s 2) + 1))) (G' := G) hW z_in9 (by decide) (zT_mem 231 (by decide +kernel) rfl) rfl rfl rfl rfl (by decide +kernel) (fun hm hW hFr2 => ?_)
      replace hFr := hFr.tr hFr2; clear hFr2
      refine zV_goto (tgt := 38) (off := -37) (by decide +kernel) (by decide) ?_
      obtain rfl := Option.some.inj h
      refine zV_pick (lo2 := [(0, .ref am), (1, .int x1)]) [0, 1] rfl ?_
      exact hL38 _ rfl hm hW hFr
theorem cn_advance_38L (s0 : State) (D : va_G) (cB cI cJ cD : ClassId) (am a1 a2 a3 : Nat) (G : Nat → Int64) (tp : Nat → Int32) (w : Nat → Int32) (oc : Nat → Int32) (n : Nat) (x1 : Int32) : ∀ (k : Nat) (s : (Nat → Int32)) {hi hm : zHp} {nx : Nat} {Q : Option Value → zHp → zHp → Nat → Prop} {hm0 : zHp} (_ : sW cB cI am a1 a2 a3 s G tp w oc hm) (_ : sFr am a1 a2 a3 hm0 hm) {x : (Nat → Int32)} (_ : zloop (n_advance_38 n tp x1) k s = some x) (hQ : ∀ r : (Nat → Int32), x = r → ∀ hm', sW cB cI am a1 a2 a3 r G tp w oc hm' → sFr am a1 a2 a3 hm0 hm' → Q none hi hm' nx), zV s0 D (zty cB cI cJ cD) yX9_advance cX9_advance 4 none 1 20 0 0 38 [(0, .ref am), (1, .int x1)] [] hi hm nx Q
  | 0, s, _, _, _, _, _, hW, hFr, _, h, _ => by cases h
  | k + 1, s, hi, hm, nx, Q, hm0, hW, hFr, x, h, hQ => by
    obtain ⟨z, hz, h1, h2⟩ := zloop_succ h
    exact cn_advance_38 s0 D cB cI cJ cD am a1 a2 a3 G tp w oc n x1 s z hW hFr hz (fun s' hs hm' hW' hFr' => cn_advance_38L s0 D cB cI cJ cD am a1 a2 a3 G tp w oc n x1 k s' hW' hFr' (h1 s' hs) hQ) (fun r hr hm' hW' hFr' => hQ r (h2 _ hr).symm hm' hW' hFr')
def n_advance_29 (n : Nat) (F : Nat → Int32) (tp : Nat → Int32) (t0 : Int32) : Option ((Nat → Int32)) := (zloop (n_advance_38 n tp t0) n (upd F 2 (F 6)))
set_option maxHeartbeats 4000000 in
set_option maxRecDepth 100000 in
theorem cn_advance_29 (s0 : State) (D : va_G) (cB cI cJ cD : ClassId) (am a1 a2 a3 : Nat) (F : Nat → Int32) (G : Nat → Int64) (tp w oc : Nat → Int32) (n : Nat) (t0 : Int32) {hi hm : zHp} {nx : Nat} {Q : Option Value → zHp → zHp → Nat → Prop} {hm0 : zHp} {x : (Nat → Int32)} (hW : sW cB cI am a1 a2 a3 F G tp w oc hm) (hFr : sFr am a1 a2 a3 hm0 hm) (h : n_advance_29 n F tp t0 = some x) (hQ : ∀ r : (Nat → Int32), x = r → ∀ hm', sW cB cI am a1 a2 a3 r G tp w oc hm' → sFr am a1 a2 a3 hm0 hm' → Q none hi hm' nx) : zV s0 D (zty cB cI cJ cD) yX9_advance cX9_advance 4 none 1 20 0 0 29 [(0, .ref am)] [.int t0] hi hm nx Q := by
  unfold n_advance_29 at h
  refine zV_blk (pc' := 32) (lo' := [(1, .int t0), (0, .ref am)]) (st' := [.ref am, .ref am]) [.istore_n 1, .aload_n 0, .aload_n 0] (by decide +kernel) rfl ?_
  refine s_get (idx := 24) (k := 6) (v := .int (F 6)) hW z_in9 (by decide) (zT_mem 239 (by decide +kernel) rfl) rfl (by decide +kernel) ?_
  refine s_put (idx := 15) (k := 2) (v := .int (F 6)) (F' := (upd F 2 (F 6))) (G' := G) hW z_in9 (by decide) (zT_mem 231 (by decide +kernel) rfl) rfl rfl rfl rfl (by decide +kernel) (fun hm hW hFr2 => ?_)
  replace hFr := hFr.tr hFr2; clear hFr2
  refine zV_pick (lo2 := [(0, .ref am), (1, .int t0)]) [1, 0] rfl ?_
  exact cn_advance_38L s0 D cB cI cJ cD am a1 a2 a3 G tp w oc n t0 n (upd F 2 (F 6)) hW hFr h hQ
def n_advance_24 (n : Nat) (F : Nat → Int32) (tp : Nat → Int32) : Option ((Nat → Int32)) := (n_advance_29 n F tp 1)
set_option maxHeartbeats 4000000 in
set_option maxRecDepth 100000 in
theorem cn_advance_24 (s0 : State) (D : va_G) (cB cI cJ cD : ClassId) (am a1 a2 a3 : Nat) (F : Nat → Int32) (G : Nat → Int64) (tp w oc : Nat → Int32) (n : Nat) {hi hm : zHp} {nx : Nat} {Q : Option Value → zHp → zHp → Nat → Prop} {hm0 : zHp} {x : (Nat → Int32)} (hW : sW cB cI am a1 a2 a3 F G tp w oc hm) (hFr : sFr am a1 a2 a3 hm0 hm) (h : n_advance_24 n F tp = some x) (hQ : ∀ r : (Nat → Int32), x = r → ∀ hm', sW cB cI am a1 a2 a3 r G tp w oc hm' → sFr am a1 a2 a3 hm0 hm' → Q none hi hm' nx) : zV s0 D (zty cB cI cJ cD) yX9_advance cX9_advance 4 none 1 20 0 0 24 [(0, .ref am)] [] hi hm nx Q := by
  unfold n_advance_24 at h
  refine zV_blk (pc' := 25) (lo' := [(0, .ref am)]) (st' := [.int 1]) [.iconst 1] (by decide +kernel) rfl ?_
  refine zV_goto (tgt := 29) (off := 4) (by decide +kernel) (by decide) ?_
  refine zV_pick (lo2 := [(0, .ref am)]) [0] rfl ?_
  exact cn_advance_29 s0 D cB cI cJ cD am a1 a2 a3 F G tp w oc n 1 hW hFr h hQ
def n_advance (n : Nat) (F : Nat → Int32) (tp : Nat → Int32) : Option ((Nat → Int32)) := (if ((F 3) : Int32) = (0 : Int32) then (if ((F 1) : Int32) = (2 : Int32) then (n_advance_24 n F tp) else (if ((F 1) : Int32) = (3 : Int32) then (n_advance_24 n F tp) else (n_advance_29 n F tp 0))) else some F)
theorem oX9_advance : zO yX9_advance cX9_advance 4 none 0 := ⟨zT_mem 341 (by decide +kernel) rfl, zT_mem 95 (by decide +kernel) rfl, by decide +kernel, by decide +kernel, by decide +kernel⟩
set_option maxHeartbeats 4000000 in
set_option maxRecDepth 100000 in
theorem cn_advance (s0 : State) (D : va_G) (cB cI cJ cD : ClassId) (am a1 a2 a3 : Nat) (F : Nat → Int32) (G : Nat → Int64) (tp w oc : Nat → Int32) (n : Nat) (x : (Nat → Int32)) (h : n_advance n F tp = some x) : sK s0 D cB cI cJ cD am a1 a2 a3 yX9_advance cX9_advance 4 none 1 20 [] F G tp w oc none x G tp w oc := by
  intro hi hm nx Q hW hQ0
  have hQ : ∀ r : (Nat → Int32), x = r → ∀ hm', sW cB cI am a1 a2 a3 r G tp w oc hm' → sFr am a1 a2 a3 hm hm' → Q none hi hm' nx := fun r hr => by subst hr; exact hQ0
  have hFr : sFr am a1 a2 a3 hm hm := sFr.rf
  clear hQ0
  refine zM_of (by decide +kernel) (Nat.le_of_ble_eq_true rfl) ?_
  unfold n_advance at h
  refine zV_eq (lo2 := [(0, .ref am)]) rfl rfl rfl rfl ?_
  refine zV_blk (pc' := 1) (lo' := [(0, .ref am)]) (st' := [.ref am]) [.aload_n 0] (by decide +kernel) rfl ?_
  refine s_get (idx := 18) (k := 3) (v := .int (F 3)) hW z_in9 (by decide) (zT_mem 233 (by decide +kernel) rfl) rfl (by decide +kernel) ?_
  refine zV_if_eq (tgt := 8) (off := 4) (by decide +kernel) (by decide) (fun q => ?_) (fun q => ?_)
  · replace h := zif_pos q h
    clear q
    refine zV_blk (pc' := 9) (lo' := [(0, .ref am)]) (st' := [.ref am]) [.aload_n 0] (by decide +kernel) rfl ?_
    refine s_get (idx := 11) (k := 1) (v := .int (F 1)) hW z_in9 (by decide) (zT_mem 229 (by decide +kernel) rfl) rfl (by decide +kernel) ?_
    refine zV_blk (pc' := 13) (lo' := [(0, .ref am)]) (st' := [.int 2, .int (F 1)]) [.iconst 2] (by decide +kernel) rfl ?_
    refine zV_icmp_eq (tgt := 24) (off := 11) (by decide +kernel) (by decide) (fun q => ?_) (fun q => ?_)
    · replace h := zif_pos q h
      clear q
      refine zV_pick (lo2 := [(0, .ref am)]) [0] rfl ?_
      exact cn_advance_24 s0 D cB cI cJ cD am a1 a2 a3 F G tp w oc n  hW hFr h hQ
    · replace h := zif_neg q h
      clear q
      refine zV_blk (pc' := 17) (lo' := [(0, .ref am)]) (st' := [.ref am]) [.aload_n 0] (by decide +kernel) rfl ?_
      refine s_get (idx := 11) (k := 1) (v := .int (F 1)) hW z_in9 (by decide) (zT_mem 229 (by decide +kernel) rfl) rfl (by decide +kernel) ?_
      refine zV_blk (pc' := 21) (lo' := [(0, .ref am)]) (st' := [.int 3, .int (F 1)]) [.iconst 3] (by decide +kernel) rfl ?_
      refine zV_icmp_ne (tgt := 28) (off := 7) (by decide +kernel) (by decide) (fun q => ?_) (fun q => ?_)
      · replace h := zif_neg q h
        clear q
        refine zV_blk (pc' := 29) (lo' := [(0, .ref am)]) (st' := [.int 0]) [.iconst 0] (by decide +kernel) rfl ?_
        refine zV_pick (lo2 := [(0, .ref am)]) [0] rfl ?_
        exact cn_advance_29 s0 D cB cI cJ cD am a1 a2 a3 F G tp w oc n 0 hW hFr h hQ
      · replace h := zif_pos q h
        clear q
        refine zV_pick (lo2 := [(0, .ref am)]) [0] rfl ?_
        exact cn_advance_24 s0 D cB cI cJ cD am a1 a2 a3 F G tp w oc n  hW hFr h hQ
  · replace h := zif_neg q h
    clear q
    obtain rfl := Option.some.inj h
    exact zV_vret rfl (by decide +kernel) (hQ _ rfl hm hW hFr)

def n_takeIf (n : Nat) (F : Nat → Int32) (tp : Nat → Int32) (x1 : Int32) : Option ((Nat → Int32)) := (if (x1 : Int32) = (0 : Int32) then (n_fail F 1 (F 2)).bind (fun v1 => some v1) else (n_advance n F tp).bind (fun v2 => some v2))
theorem oX9_takeIf : zO yX9_takeIf cX9_takeIf 2 none 1 := ⟨zT_mem 425 (by decide +kernel) rfl, zT_mem 95 (by decide +kernel) rfl, by decide +kernel, by decide +kernel, by decide +kernel⟩
set_option maxHeartbeats 4000000 in
set_option maxRecDepth 100000 in
theorem cn_takeIf (s0 : State) (D : va_G) (cB cI cJ cD : ClassId) (am a1 a2 a3 : Nat) (F : Nat → Int32) (G : Nat → Int64) (tp w oc : Nat → Int32) (n : Nat) (x1 : Int32) (x : (Nat → Int32)) (h : n_takeIf n F tp x1 = some x) : sK s0 D cB cI cJ cD am a1 a2 a3 yX9_takeIf cX9_takeIf 2 none 2 43 [.int x1] F G tp w oc none x G tp w oc := by
  intro hi hm nx Q hW hQ0
  have hQ : ∀ r : (Nat → Int32), x = r → ∀ hm', sW cB cI am a1 a2 a3 r G tp w oc hm' → sFr am a1 a2 a3 hm hm' → Q none hi hm' nx := fun r hr => by subst hr; exact hQ0
  have hFr : sFr am a1 a2 a3 hm hm := sFr.rf
  clear hQ0
  refine zM_of (by decide +kernel) (Nat.le_of_ble_eq_true rfl) ?_
  unfold n_takeIf at h
  refine zV_eq (lo2 := [(0, .ref am), (1, .int x1)]) rfl rfl rfl rfl ?_
  refine zV_blk (pc' := 1) (lo' := [(0, .ref am), (1, .int x1)]) (st' := [.int x1]) [.iload_n 1] (by decide +kernel) rfl ?_
  refine zV_if_eq (tgt := 11) (off := 10) (by decide +kernel) (by decide) (fun q => ?_) (fun q => ?_)
  · replace h := zif_pos q h
    clear q
    refine zV_blk (pc' := 14) (lo' := [(0, .ref am), (1, .int x1)]) (st' := [.ref am, .int 1, .ref am]) [.aload_n 0, .iconst 1, .aload_n 0] (by decide +kernel) rfl ?_
    refine s_get (idx := 15) (k := 2) (v := .int (F 2)) hW z_in9 (by decide) (zT_mem 231 (by decide +kernel) rfl) rfl (by decide +kernel) ?_
    obtain ⟨v1, hv1, h⟩ := zbind h
    refine s_cC (idx := 56) (rest := []) hW (cn_fail s0 D cB cI cJ cD am a1 a2 a3 F G tp w oc 1 (F 2) v1 hv1) oX9_fail rfl (zT_mem 413 (by decide +kernel) rfl) (zT_mem 406 (by decide +kernel) rfl) (zT_mem 407 (by decide +kernel) rfl) rfl rfl (Nat.le_of_ble_eq_true rfl) ⟨by decide, by decide⟩ (by decide +kernel) (fun hm hW hFr2 => ?_)
    replace hFr := hFr.tr hFr2; clear hFr2
    refine zV_eq (st2 := []) rfl rfl rfl rfl ?_
    obtain rfl := Option.some.inj h
    exact zV_vret rfl (by decide +kernel) (hQ _ rfl hm hW hFr)
  · replace h := zif_neg q h
    clear q
    refine zV_blk (pc' := 5) (lo' := [(0, .ref am), (1, .int x1)]) (st' := [.ref am]) [.aload_n 0] (by decide +kernel) rfl ?_
    obtain ⟨v2, hv2, h⟩ := zbind h
    refine s_cC (idx := 53) (rest := []) hW (cn_advance s0 D cB cI cJ cD am a1 a2 a3 F G tp w oc n  v2 hv2) oX9_advance rfl (zT_mem 414 (by decide +kernel) rfl) (zT_mem 339 (by decide +kernel) rfl) (zT_mem 340 (by decide +kernel) rfl) rfl rfl (Nat.le_of_ble_eq_true rfl) ⟨by decide, by decide⟩ (by decide +kernel) (fun hm hW hFr2 => ?_)
    replace hFr := hFr.tr hFr2; clear hFr2
    refine zV_eq (st2 := []) rfl rfl rfl rfl ?_
    refine zV_goto (tgt := 20) (off := 12) (by decide +kernel) (by decide) ?_
    obtain rfl := Option.some.inj h
    exact zV_vret rfl (by decide +kernel) (hQ _ rfl hm hW hFr)

def n_takeNumber_68 (n : Nat) (F : Nat → Int32) (tp : Nat → Int32) : Option (Int32 × (Nat → Int32)) := (n_fail F 2 (F 2)).bind (fun v1 => some (0, v1))
set_option maxHeartbeats 4000000 in
set_option maxRecDepth 100000 in
theorem cn_takeNumber_68 (s0 : State) (D : va_G) (cB cI cJ cD : ClassId) (am a1 a2 a3 : Nat) (F : Nat → Int32) (G : Nat → Int64) (tp w oc : Nat → Int32) (n : Nat) {hi hm : zHp} {nx : Nat} {Q : Option Value → zHp → zHp → Nat → Prop} {hm0 : zHp} {x : Int32 × (Nat → Int32)} (hW : sW cB cI am a1 a2 a3 F G tp w oc hm) (hFr : sFr am a1 a2 a3 hm0 hm) (h : n_takeNumber_68 n F tp = some x) (hQ : ∀ r : Int32 × (Nat → Int32), x = r → ∀ hm', sW cB cI am a1 a2 a3 r.2 G tp w oc hm' → sFr am a1 a2 a3 hm0 hm' → Q (some (.int r.1)) hi hm' nx) : zV s0 D (zty cB cI cJ cD) yX9_takeNumber cX9_takeNumber 5 (some .int) 2 43 0 0 68 [(0, .ref am)] [] hi hm nx Q := by
  unfold n_takeNumber_68 at h
  refine zV_blk (pc' := 71) (lo' := [(0, .ref am)]) (st' := [.ref am, .int 2, .ref am]) [.aload_n 0, .iconst 2, .aload_n 0] (by decide +kernel) rfl ?_
  refine s_get (idx := 15) (k := 2) (v := .int (F 2)) hW z_in9 (by decide) (zT_mem 231 (by decide +kernel) rfl) rfl (by decide +kernel) ?_
  obtain ⟨v1, hv1, h⟩ := zbind h
  refine s_cC (idx := 56) (rest := []) hW (cn_fail s0 D cB cI cJ cD am a1 a2 a3 F G tp w oc 2 (F 2) v1 hv1) oX9_fail rfl (zT_mem 413 (by decide +kernel) rfl) (zT_mem 406 (by decide +kernel) rfl) (zT_mem 407 (by decide +kernel) rfl) rfl rfl (Nat.le_of_ble_eq_true rfl) ⟨by decide, by decide⟩ (by decide +kernel) (fun hm hW hFr2 => ?_)
  replace hFr := hFr.tr hFr2; clear hFr2
  refine zV_eq (st2 := []) rfl rfl rfl rfl ?_
  refine zV_blk (pc' := 78) (lo' := [(0, .ref am)]) (st' := [.int 0]) [.iconst 0] (by decide +kernel) rfl ?_
  obtain rfl := Option.some.inj h
  exact zV_iret rfl (by decide +kernel) (hQ _ rfl hm hW hFr)
def n_takeNumber_27 (n : Nat) (F : Nat → Int32) (tp : Nat → Int32) (x1 : Int32) (x2 : Int32) (s : Int32 × Int32) : Option ((Int32 × Int32) ⊕ (Int32 × (Nat → Int32))) := (if ((F 6) : Int32) ≤ (s.2 : Int32) then (if (s.1 : Int32) < (x1 : Int32) then ((n_takeNumber_68 n F tp).map (fun z => .inr z)) else (if (s.1 : Int32) ≤ (x2 : Int32) then (n_advance n F tp).bind (fun v2 => some (.inr (s.1, v2))) else ((n_takeNumber_68 n F tp).map (fun z => .inr z)))) else zck (zin (s.2) 800) (some (.inl ((((s.1 * 10) + (tp (s.2 : Int32).toNatClampNeg)) - 48), (s.2 + 1)))))
set_option maxHeartbeats 4000000 in
set_option maxRecDepth 100000 in
theorem cn_takeNumber_27 (s0 : State) (D : va_G) (cB cI cJ cD : ClassId) (am a1 a2 a3 : Nat) (F : Nat → Int32) (G : Nat → Int64) (tp : Nat → Int32) (w : Nat → Int32) (oc : Nat → Int32) (n : Nat) (x1 : Int32) (x2 : Int32) (s : Int32 × Int32) (x : (Int32 × Int32) ⊕ (Int32 × (Nat → Int32))) {hi hm : zHp} {nx : Nat} {Q : Option Value → zHp → zHp → Nat → Prop} {hm0 : zHp} (hW : sW cB cI am a1 a2 a3 F G tp w oc hm) (hFr : sFr am a1 a2 a3 hm0 hm) (h : n_takeNumber_27 n F tp x1 x2 s = some x) (hL27 : ∀ s : Int32 × Int32, x = (.inl s) → ∀ hm', sW cB cI am a1 a2 a3 F G tp w oc hm' → sFr am a1 a2 a3 hm0 hm' → zV s0 D (zty cB cI cJ cD) yX9_takeNumber cX9_takeNumber 5 (some .int) 2 43 0 0 27 [(0, .ref am), (1, .int x1), (2, .int x2), (3, .int s.1), (4, .int s.2)] [] hi hm' nx Q) (hQ : ∀ r : Int32 × (Nat → Int32), x = (.inr r) → ∀ hm', sW cB cI am a1 a2 a3 r.2 G tp w oc hm' → sFr am a1 a2 a3 hm0 hm' → Q (some (.int r.1)) hi hm' nx) : zV s0 D (zty cB cI cJ cD) yX9_takeNumber cX9_takeNumber 5 (some .int) 2 43 0 0 27 [(0, .ref am), (1, .int x1), (2, .int x2), (3, .int s.1), (4, .int s.2)] [] hi hm nx Q := by
  unfold n_takeNumber_27 at h
  refine zV_blk (pc' := 30) (lo' := [(0, .ref am), (1, .int x1), (2, .int x2), (3, .int s.1), (4, .int s.2)]) (st' := [.ref am, .int s.2]) [.iload 4, .aload_n 0] (by decide +kernel) rfl ?_
  refine s_get (idx := 24) (k := 6) (v := .int (F 6)) hW z_in9 (by decide) (zT_mem 239 (by decide +kernel) rfl) rfl (by decide +kernel) ?_
  refine zV_icmp_ge (tgt := 58) (off := 25) (by decide +kernel) (by decide) (fun q => ?_) (fun q => ?_)
  · replace h := zif_pos q h
    clear q
    refine zV_blk (pc' := 60) (lo' := [(0, .ref am), (1, .int x1), (2, .int x2), (3, .int s.1), (4, .int s.2)]) (st' := [.int x1, .int s.1]) [.iload_n 3, .iload_n 1] (by decide +kernel) rfl ?_
    refine zV_icmp_lt (tgt := 68) (off := 8) (by decide +kernel) (by decide) (fun q => ?_) (fun q => ?_)
    · replace h := zif_pos q h
      clear q
      obtain ⟨z1, h9, hx⟩ := zmap h
      clear h; subst hx; have h := h9; clear h9
      refine zV_pick (lo2 := [(0, .ref am)]) [0] rfl ?_
      exact cn_takeNumber_68 s0 D cB cI cJ cD am a1 a2 a3 F G tp w oc n  hW hFr h (fun r hr => hQ r (by rw [hr]))
    · replace h := zif_neg q h
      clear q
      refine zV_blk (pc' := 65) (lo' := [(0, .ref am), (1, .int x1), (2, .int x2), (3, .int s.1), (4, .int s.2)]) (st' := [.int x2, .int s.1]) [.iload_n 3, .iload_n 2] (by decide +kernel) rfl ?_
      refine zV_icmp_le (tgt := 79) (off := 14) (by decide +kernel) (by decide) (fun q => ?_) (fun q => ?_)
      · replace h := zif_pos q h
        clear q
        refine zV_blk (pc' := 80) (lo' := [(0, .ref am), (1, .int x1), (2, .int x2), (3, .int s.1), (4, .int s.2)]) (st' := [.ref am]) [.aload_n 0] (by decide +kernel) rfl ?_
        obtain ⟨v2, hv2, h⟩ := zbind h
        refine s_cC (idx := 53) (rest := []) hW (cn_advance s0 D cB cI cJ cD am a1 a2 a3 F G tp w oc n  v2 hv2) oX9_advance rfl (zT_mem 414 (by decide +kernel) rfl) (zT_mem 339 (by decide +kernel) rfl) (zT_mem 340 (by decide +kernel) rfl) rfl rfl (Nat.le_of_ble_eq_true rfl) ⟨by decide, by decide⟩ (by decide +kernel) (fun hm hW hFr2 => ?_)
        replace hFr := hFr.tr hFr2; clear hFr2
        refine zV_eq (st2 := []) rfl rfl rfl rfl ?_
        refine zV_blk (pc' := 84) (lo' := [(0, .ref am), (1, .int x1), (2, .int x2), (3, .int s.1), (4, .int s.2)]) (st' := [.int s.1]) [.iload_n 3] (by decide +kernel) rfl ?_
        obtain rfl := Option.some.inj h
        exact zV_iret rfl (by decide +kernel) (hQ _ rfl hm hW hFr)
      · replace h := zif_neg q h
        clear q
        obtain ⟨z3, h9, hx⟩ := zmap h
        clear h; subst hx; have h := h9; clear h9
        refine zV_pick (lo2 := [(0, .ref am)]) [0] rfl ?_
        exact cn_takeNumber_68 s0 D cB cI cJ cD am a1 a2 a3 F G tp w oc n  hW hFr h (fun r hr => hQ r (by rw [hr]))
  · replace h := zif_neg q h
    clear q
    refine zV_blk (pc' := 41) (lo' := [(0, .ref am), (1, .int x1), (2, .int x2), (3, .int s.1), (4, .int s.2)]) (st' := [.ref am, .int (s.1 * 10)]) [.iload_n 3, .bipush 10, .imul, .aload_n 0] (by decide +kernel) rfl ?_
    refine s_get (idx := 27) (k := 5) (v := .ref a1) hW z_in9 (by decide) (zT_mem 238 (by decide +kernel) rfl) rfl (by decide +kernel) ?_
    refine zV_blk (pc' := 46) (lo' := [(0, .ref am), (1, .int x1), (2, .int x2), (3, .int s.1), (4, .int s.2)]) (st' := [.int s.2, .ref a1, .int (s.1 * 10)]) [.iload 4] (by decide +kernel) rfl ?_
    obtain ⟨hz, h⟩ := zck_some h
    refine s_tld hW hz (by decide +kernel) ?_
    refine zV_blk (pc' := 55) (lo' := [(4, .int (s.2 + 1)), (3, .int (((s.1 * 10) + (tp (s.2 : Int32).toNatClampNeg)) - 48)), (0, .ref am), (1, .int x1), (2, .int x2)]) (st' := []) [.iadd, .bipush 48, .isub, .istore_n 3, .iinc 4 1] (by decide +kernel) rfl ?_
    refine zV_goto (tgt := 27) (off := -28) (by decide +kernel) (by decide) ?_
    obtain rfl := Option.some.inj h
    refine zV_pick (lo2 := [(0, .ref am), (1, .int x1), (2, .int x2), (3, .int (((s.1 * 10) + (tp (s.2 : Int32).toNatClampNeg)) - 48)), (4, .int (s.2 + 1))]) [2, 3, 4, 1, 0] rfl ?_
    exact hL27 _ rfl hm hW hFr
theorem cn_takeNumber_27L (s0 : State) (D : va_G) (cB cI cJ cD : ClassId) (am a1 a2 a3 : Nat) (F : Nat → Int32) (G : Nat → Int64) (tp : Nat → Int32) (w : Nat → Int32) (oc : Nat → Int32) (n : Nat) (x1 : Int32) (x2 : Int32) : ∀ (k : Nat) (s : Int32 × Int32) {hi hm : zHp} {nx : Nat} {Q : Option Value → zHp → zHp → Nat → Prop} {hm0 : zHp} (_ : sW cB cI am a1 a2 a3 F G tp w oc hm) (_ : sFr am a1 a2 a3 hm0 hm) {x : Int32 × (Nat → Int32)} (_ : zloop (n_takeNumber_27 n F tp x1 x2) k s = some x) (hQ : ∀ r : Int32 × (Nat → Int32), x = r → ∀ hm', sW cB cI am a1 a2 a3 r.2 G tp w oc hm' → sFr am a1 a2 a3 hm0 hm' → Q (some (.int r.1)) hi hm' nx), zV s0 D (zty cB cI cJ cD) yX9_takeNumber cX9_takeNumber 5 (some .int) 2 43 0 0 27 [(0, .ref am), (1, .int x1), (2, .int x2), (3, .int s.1), (4, .int s.2)] [] hi hm nx Q
  | 0, s, _, _, _, _, _, hW, hFr, _, h, _ => by cases h
  | k + 1, s, hi, hm, nx, Q, hm0, hW, hFr, x, h, hQ => by
    obtain ⟨z, hz, h1, h2⟩ := zloop_succ h
    exact cn_takeNumber_27 s0 D cB cI cJ cD am a1 a2 a3 F G tp w oc n x1 x2 s z hW hFr hz (fun s' hs hm' hW' hFr' => cn_takeNumber_27L s0 D cB cI cJ cD am a1 a2 a3 F G tp w oc n x1 x2 k s' hW' hFr' (h1 s' hs) hQ) (fun r hr hm' hW' hFr' => hQ r (h2 _ hr).symm hm' hW' hFr')
def n_takeNumber (n : Nat) (F : Nat → Int32) (tp : Nat → Int32) (x1 : Int32) (x2 : Int32) : Option (Int32 × (Nat → Int32)) := (if ((F 1) : Int32) = (3 : Int32) then (zloop (n_takeNumber_27 n F tp x1 x2) n (0, (F 2))) else (n_fail F 1 (F 2)).bind (fun v1 => some (0, v1)))
theorem oX9_takeNumber : zO yX9_takeNumber cX9_takeNumber 5 (some .int) 2 := ⟨zT_mem 412 (by decide +kernel) rfl, zT_mem 95 (by decide +kernel) rfl, by decide +kernel, by decide +kernel, by decide +kernel⟩
set_option maxHeartbeats 4000000 in
set_option maxRecDepth 100000 in
theorem cn_takeNumber (s0 : State) (D : va_G) (cB cI cJ cD : ClassId) (am a1 a2 a3 : Nat) (F : Nat → Int32) (G : Nat → Int64) (tp w oc : Nat → Int32) (n : Nat) (x1 : Int32) (x2 : Int32) (x : Int32 × (Nat → Int32)) (h : n_takeNumber n F tp x1 x2 = some x) : sK s0 D cB cI cJ cD am a1 a2 a3 yX9_takeNumber cX9_takeNumber 5 (some .int) 2 43 [.int x1, .int x2] F G tp w oc (some (.int x.1)) x.2 G tp w oc := by
  intro hi hm nx Q hW hQ0
  have hQ : ∀ r : Int32 × (Nat → Int32), x = r → ∀ hm', sW cB cI am a1 a2 a3 r.2 G tp w oc hm' → sFr am a1 a2 a3 hm hm' → Q (some (.int r.1)) hi hm' nx := fun r hr => by subst hr; exact hQ0
  have hFr : sFr am a1 a2 a3 hm hm := sFr.rf
  clear hQ0
  refine zM_of (by decide +kernel) (Nat.le_of_ble_eq_true rfl) ?_
  unfold n_takeNumber at h
  refine zV_eq (lo2 := [(0, .ref am), (1, .int x1), (2, .int x2)]) rfl rfl rfl rfl ?_
  refine zV_blk (pc' := 1) (lo' := [(0, .ref am), (1, .int x1), (2, .int x2)]) (st' := [.ref am]) [.aload_n 0] (by decide +kernel) rfl ?_
  refine s_get (idx := 11) (k := 1) (v := .int (F 1)) hW z_in9 (by decide) (zT_mem 229 (by decide +kernel) rfl) rfl (by decide +kernel) ?_
  refine zV_blk (pc' := 5) (lo' := [(0, .ref am), (1, .int x1), (2, .int x2)]) (st' := [.int 3, .int (F 1)]) [.iconst 3] (by decide +kernel) rfl ?_
  refine zV_icmp_eq (tgt := 19) (off := 14) (by decide +kernel) (by decide) (fun q => ?_) (fun q => ?_)
  · replace h := zif_pos q h
    clear q
    refine zV_blk (pc' := 22) (lo' := [(3, .int 0), (0, .ref am), (1, .int x1), (2, .int x2)]) (st' := [.ref am]) [.iconst 0, .istore_n 3, .aload_n 0] (by decide +kernel) rfl ?_
    refine s_get (idx := 15) (k := 2) (v := .int (F 2)) hW z_in9 (by decide) (zT_mem 231 (by decide +kernel) rfl) rfl (by decide +kernel) ?_
    refine zV_blk (pc' := 27) (lo' := [(4, .int (F 2)), (3, .int 0), (0, .ref am), (1, .int x1), (2, .int x2)]) (st' := []) [.istore 4] (by decide +kernel) rfl ?_
    refine zV_pick (lo2 := [(0, .ref am), (1, .int x1), (2, .int x2), (3, .int 0), (4, .int (F 2))]) [2, 3, 4, 1, 0] rfl ?_
    exact cn_takeNumber_27L s0 D cB cI cJ cD am a1 a2 a3 F G tp w oc n x1 x2 n (0, (F 2)) hW hFr h hQ
  · replace h := zif_neg q h
    clear q
    refine zV_blk (pc' := 11) (lo' := [(0, .ref am), (1, .int x1), (2, .int x2)]) (st' := [.ref am, .int 1, .ref am]) [.aload_n 0, .iconst 1, .aload_n 0] (by decide +kernel) rfl ?_
    refine s_get (idx := 15) (k := 2) (v := .int (F 2)) hW z_in9 (by decide) (zT_mem 231 (by decide +kernel) rfl) rfl (by decide +kernel) ?_
    obtain ⟨v1, hv1, h⟩ := zbind h
    refine s_cC (idx := 56) (rest := []) hW (cn_fail s0 D cB cI cJ cD am a1 a2 a3 F G tp w oc 1 (F 2) v1 hv1) oX9_fail rfl (zT_mem 413 (by decide +kernel) rfl) (zT_mem 406 (by decide +kernel) rfl) (zT_mem 407 (by decide +kernel) rfl) rfl rfl (Nat.le_of_ble_eq_true rfl) ⟨by decide, by decide⟩ (by decide +kernel) (fun hm hW hFr2 => ?_)
    replace hFr := hFr.tr hFr2; clear hFr2
    refine zV_eq (st2 := []) rfl rfl rfl rfl ?_
    refine zV_blk (pc' := 18) (lo' := [(0, .ref am), (1, .int x1), (2, .int x2)]) (st' := [.int 0]) [.iconst 0] (by decide +kernel) rfl ?_
    obtain rfl := Option.some.inj h
    exact zV_iret rfl (by decide +kernel) (hQ _ rfl hm hW hFr)
