def n_sees_28 (wn : Nat) (wf : Nat → Int32) (n : Nat) (F : Nat → Int32) (tp : Nat → Int32) (s : Int32) : Option ((Int32) ⊕ (Bool)) := (if ((Int32.ofNat wn >>> ((0 : Int32) &&& 31)) : Int32) ≤ (s : Int32) then some (.inr true) else zck (zin (((F 2) + s)) 800) (zck (zin (s) wn && decide (¬ (s : Int32) < 0) && decide ((s : Int32) < Int32.ofNat wn)) ((if ((tp (((F 2) + s) : Int32).toNatClampNeg) : Int32) = ((((wf (s : Int32).toNatClampNeg &&& 255).toUInt32 % 65536).toInt32) : Int32) then some (.inl (s + 1)) else some (.inr false)))))
set_option maxHeartbeats 4000000 in
set_option maxRecDepth 100000 in
theorem cn_sees_28 {s0 : State} (aw wn : Nat) (wf : Nat → Int32) (hw : iStr s0 aw wn wf) (D : va_G) (cB cI cJ cD : ClassId) (am a1 a2 a3 : Nat) (F : Nat → Int32) (G : Nat → Int64) (tp : Nat → Int32) (w : Nat → Int32) (oc : Nat → Int32) (n : Nat) (s : Int32) (x : (Int32) ⊕ (Bool)) {hi hm : zHp} {nx : Nat} {Q : Option Value → zHp → zHp → Nat → Prop} (hW : sW cB cI am a1 a2 a3 F G tp w oc hm) (h : n_sees_28 wn wf n F tp s = some x) (hL28 : ∀ s : Int32, x = (.inl s) → zV s0 D (zty cB cI cJ cD) yX9_sees cX9_sees 3 (some .boolean) 4 87 0 0 28 [(0, .ref am), (1, .ref aw), (2, .int s)] [] hi hm nx Q) (hQ : ∀ r : Bool, x = (.inr r) → Q (some (.int (zb r))) hi hm nx) : zV s0 D (zty cB cI cJ cD) yX9_sees cX9_sees 3 (some .boolean) 4 87 0 0 28 [(0, .ref am), (1, .ref aw), (2, .int s)] [] hi hm nx Q := by
  unfold n_sees_28 at h
  refine zV_blk (pc' := 30) (lo' := [(0, .ref am), (1, .ref aw), (2, .int s)]) (st' := [.ref aw, .int s]) [.iload_n 2, .aload_n 1] (by decide +kernel) rfl ?_
  refine zV_callSt (idx := 44) (As := []) (rest := [.int s]) (fun Q2 hQ2 => cj_length s0 D (zty cB cI cJ cD) aw wn wf hw hQ2) oJ0_length hw rfl (zT_mem 358 (by decide +kernel) rfl) (zT_mem 359 (by decide +kernel) rfl) (zT_mem 360 (by decide +kernel) rfl) rfl rfl (Nat.le_of_ble_eq_true rfl) ⟨by decide, by decide⟩ (by decide +kernel) ?_
  refine zV_eq (st2 := [.int (Int32.ofNat wn >>> ((0 : Int32) &&& 31)), .int s]) rfl rfl rfl rfl ?_
  refine zV_icmp_ge (tgt := 63) (off := 30) (by decide +kernel) (by decide) (fun q => ?_) (fun q => ?_)
  · replace h := zif_pos q h
    clear q
    refine zV_blk (pc' := 64) (lo' := [(0, .ref am), (1, .ref aw), (2, .int s)]) (st' := [.int 1]) [.iconst 1] (by decide +kernel) rfl ?_
    obtain rfl := Option.some.inj h
    refine zV_eq (st2 := [.int (zb true)]) rfl rfl rfl rfl ?_
    exact zV_bret rfl (by decide +kernel) (hQ _ rfl)
  · replace h := zif_neg q h
    clear q
    refine zV_blk (pc' := 37) (lo' := [(0, .ref am), (1, .ref aw), (2, .int s)]) (st' := [.ref am]) [.aload_n 0] (by decide +kernel) rfl ?_
    refine s_get (idx := 27) (k := 5) (v := .ref a1) hW z_in9 (by decide) (zT_mem 238 (by decide +kernel) rfl) rfl (by decide +kernel) ?_
    refine zV_blk (pc' := 41) (lo' := [(0, .ref am), (1, .ref aw), (2, .int s)]) (st' := [.ref am, .ref a1]) [.aload_n 0] (by decide +kernel) rfl ?_
    refine s_get (idx := 15) (k := 2) (v := .int (F 2)) hW z_in9 (by decide) (zT_mem 231 (by decide +kernel) rfl) rfl (by decide +kernel) ?_
    refine zV_blk (pc' := 46) (lo' := [(0, .ref am), (1, .ref aw), (2, .int s)]) (st' := [.int ((F 2) + s), .ref a1]) [.iload_n 2, .iadd] (by decide +kernel) rfl ?_
    obtain ⟨hz, h⟩ := zck_some h
    refine s_tld hW hz (by decide +kernel) ?_
    refine zV_blk (pc' := 49) (lo' := [(0, .ref am), (1, .ref aw), (2, .int s)]) (st' := [.int s, .ref aw, .int (tp (((F 2) + s) : Int32).toNatClampNeg)]) [.aload_n 1, .iload_n 2] (by decide +kernel) rfl ?_
    obtain ⟨hz, h⟩ := zck_some h
    rw [Bool.and_eq_true, Bool.and_eq_true] at hz
    refine zV_callSt (idx := 49) (As := [.int (s)]) (rest := [.int (tp (((F 2) + s) : Int32).toNatClampNeg)]) (fun Q2 hQ2 => cj_charAt s0 D (zty cB cI cJ cD) aw wn wf (s) hw hz.1.1 (of_decide_eq_true hz.1.2) (of_decide_eq_true hz.2) hQ2) oJ0_charAt hw rfl (zT_mem 367 (by decide +kernel) rfl) (zT_mem 368 (by decide +kernel) rfl) (zT_mem 369 (by decide +kernel) rfl) rfl rfl (Nat.le_of_ble_eq_true rfl) ⟨by decide, by decide⟩ (by decide +kernel) ?_
    refine zV_eq (st2 := [.int (((wf (s : Int32).toNatClampNeg &&& 255).toUInt32 % 65536).toInt32), .int (tp (((F 2) + s) : Int32).toNatClampNeg)]) rfl rfl rfl rfl ?_
    refine zV_icmp_eq (tgt := 57) (off := 5) (by decide +kernel) (by decide) (fun q => ?_) (fun q => ?_)
    · replace h := zif_pos q h
      clear q
      refine zV_blk (pc' := 60) (lo' := [(2, .int (s + 1)), (0, .ref am), (1, .ref aw)]) (st' := []) [.iinc 2 1] (by decide +kernel) rfl ?_
      refine zV_goto (tgt := 28) (off := -32) (by decide +kernel) (by decide) ?_
      obtain rfl := Option.some.inj h
      refine zV_pick (lo2 := [(0, .ref am), (1, .ref aw), (2, .int (s + 1))]) [1, 2, 0] rfl ?_
      exact hL28 _ rfl
    · replace h := zif_neg q h
      clear q
      refine zV_blk (pc' := 56) (lo' := [(0, .ref am), (1, .ref aw), (2, .int s)]) (st' := [.int 0]) [.iconst 0] (by decide +kernel) rfl ?_
      obtain rfl := Option.some.inj h
      refine zV_eq (st2 := [.int (zb false)]) rfl rfl rfl rfl ?_
      exact zV_bret rfl (by decide +kernel) (hQ _ rfl)
theorem cn_sees_28L {s0 : State} (aw wn : Nat) (wf : Nat → Int32) (hw : iStr s0 aw wn wf) (D : va_G) (cB cI cJ cD : ClassId) (am a1 a2 a3 : Nat) (F : Nat → Int32) (G : Nat → Int64) (tp : Nat → Int32) (w : Nat → Int32) (oc : Nat → Int32) (n : Nat) : ∀ (k : Nat) (s : Int32) {hi hm : zHp} {nx : Nat} {Q : Option Value → zHp → zHp → Nat → Prop} (_ : sW cB cI am a1 a2 a3 F G tp w oc hm) {x : Bool} (_ : zloop (n_sees_28 wn wf n F tp) k s = some x) (hQ : ∀ r : Bool, x = r → Q (some (.int (zb r))) hi hm nx), zV s0 D (zty cB cI cJ cD) yX9_sees cX9_sees 3 (some .boolean) 4 87 0 0 28 [(0, .ref am), (1, .ref aw), (2, .int s)] [] hi hm nx Q
  | 0, s, _, _, _, _, hW, _, h, _ => by cases h
  | k + 1, s, hi, hm, nx, Q, hW, x, h, hQ => by
    obtain ⟨z, hz, h1, h2⟩ := zloop_succ h
    exact cn_sees_28 aw wn wf hw D cB cI cJ cD am a1 a2 a3 F G tp w oc n  s z hW hz (fun s' hs => cn_sees_28L aw wn wf hw D cB cI cJ cD am a1 a2 a3 F G tp w oc n  k s' hW (h1 s' hs) hQ) (fun r hr => hQ r (h2 _ hr).symm)
def n_sees (wn : Nat) (wf : Nat → Int32) (n : Nat) (F : Nat → Int32) (tp : Nat → Int32) : Option (Bool) := (if ((F 1) : Int32) = (2 : Int32) then (if (((F 6) - (F 2)) : Int32) = ((Int32.ofNat wn >>> ((0 : Int32) &&& 31)) : Int32) then (zloop (n_sees_28 wn wf n F tp) n 0) else some false) else some false)
theorem oX9_sees : zO yX9_sees cX9_sees 3 (some .boolean) 1 := ⟨zT_mem 357 (by decide +kernel) rfl, zT_mem 95 (by decide +kernel) rfl, by decide +kernel, by decide +kernel, by decide +kernel⟩
set_option maxHeartbeats 4000000 in
set_option maxRecDepth 100000 in
theorem cn_sees {s0 : State} (aw wn : Nat) (wf : Nat → Int32) (hw : iStr s0 aw wn wf) (D : va_G) (cB cI cJ cD : ClassId) (am a1 a2 a3 : Nat) (F : Nat → Int32) (G : Nat → Int64) (tp w oc : Nat → Int32) (n : Nat) (x : Bool) (h : n_sees wn wf n F tp = some x) : sR s0 D cB cI cJ cD am a1 a2 a3 yX9_sees cX9_sees 3 (some .boolean) 4 87 [.ref aw] F G tp w oc (some (.int (zb x))) := by
  intro hi hm nx Q hW hQ0
  have hQ : ∀ r : Bool, x = r → Q (some (.int (zb r))) hi hm nx := fun r hr => by subst hr; exact hQ0
  refine zM_of (by decide +kernel) (Nat.le_of_ble_eq_true rfl) ?_
  unfold n_sees at h
  refine zV_eq (lo2 := [(0, .ref am), (1, .ref aw)]) rfl rfl rfl rfl ?_
  refine zV_blk (pc' := 1) (lo' := [(0, .ref am), (1, .ref aw)]) (st' := [.ref am]) [.aload_n 0] (by decide +kernel) rfl ?_
  refine s_get (idx := 11) (k := 1) (v := .int (F 1)) hW z_in9 (by decide) (zT_mem 229 (by decide +kernel) rfl) rfl (by decide +kernel) ?_
  refine zV_blk (pc' := 5) (lo' := [(0, .ref am), (1, .ref aw)]) (st' := [.int 2, .int (F 1)]) [.iconst 2] (by decide +kernel) rfl ?_
  refine zV_icmp_ne (tgt := 24) (off := 19) (by decide +kernel) (by decide) (fun q => ?_) (fun q => ?_)
  · replace h := zif_neg q h
    clear q
    refine zV_blk (pc' := 25) (lo' := [(0, .ref am), (1, .ref aw)]) (st' := [.int 0]) [.iconst 0] (by decide +kernel) rfl ?_
    obtain rfl := Option.some.inj h
    refine zV_eq (st2 := [.int (zb false)]) rfl rfl rfl rfl ?_
    exact zV_bret rfl (by decide +kernel) (hQ _ rfl)
  · replace h := zif_pos q h
    clear q
    refine zV_blk (pc' := 9) (lo' := [(0, .ref am), (1, .ref aw)]) (st' := [.ref am]) [.aload_n 0] (by decide +kernel) rfl ?_
    refine s_get (idx := 24) (k := 6) (v := .int (F 6)) hW z_in9 (by decide) (zT_mem 239 (by decide +kernel) rfl) rfl (by decide +kernel) ?_
    refine zV_blk (pc' := 13) (lo' := [(0, .ref am), (1, .ref aw)]) (st' := [.ref am, .int (F 6)]) [.aload_n 0] (by decide +kernel) rfl ?_
    refine s_get (idx := 15) (k := 2) (v := .int (F 2)) hW z_in9 (by decide) (zT_mem 231 (by decide +kernel) rfl) rfl (by decide +kernel) ?_
    refine zV_blk (pc' := 18) (lo' := [(0, .ref am), (1, .ref aw)]) (st' := [.ref aw, .int ((F 6) - (F 2))]) [.isub, .aload_n 1] (by decide +kernel) rfl ?_
    refine zV_callSt (idx := 44) (As := []) (rest := [.int ((F 6) - (F 2))]) (fun Q2 hQ2 => cj_length s0 D (zty cB cI cJ cD) aw wn wf hw hQ2) oJ0_length hw rfl (zT_mem 358 (by decide +kernel) rfl) (zT_mem 359 (by decide +kernel) rfl) (zT_mem 360 (by decide +kernel) rfl) rfl rfl (Nat.le_of_ble_eq_true rfl) ⟨by decide, by decide⟩ (by decide +kernel) ?_
    refine zV_eq (st2 := [.int (Int32.ofNat wn >>> ((0 : Int32) &&& 31)), .int ((F 6) - (F 2))]) rfl rfl rfl rfl ?_
    refine zV_icmp_eq (tgt := 26) (off := 5) (by decide +kernel) (by decide) (fun q => ?_) (fun q => ?_)
    · replace h := zif_pos q h
      clear q
      refine zV_blk (pc' := 28) (lo' := [(2, .int 0), (0, .ref am), (1, .ref aw)]) (st' := []) [.iconst 0, .istore_n 2] (by decide +kernel) rfl ?_
      refine zV_pick (lo2 := [(0, .ref am), (1, .ref aw), (2, .int 0)]) [1, 2, 0] rfl ?_
      exact cn_sees_28L aw wn wf hw D cB cI cJ cD am a1 a2 a3 F G tp w oc n  n 0 hW h hQ
    · replace h := zif_neg q h
      clear q
      refine zV_blk (pc' := 25) (lo' := [(0, .ref am), (1, .ref aw)]) (st' := [.int 0]) [.iconst 0] (by decide +kernel) rfl ?_
      obtain rfl := Option.some.inj h
      refine zV_eq (st2 := [.int (zb false)]) rfl rfl rfl rfl ?_
      exact zV_bret rfl (by decide +kernel) (hQ _ rfl)

